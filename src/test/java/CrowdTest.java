/** TIMED, CWND, THRESH, SAME and fast retransmission, as the terms tell them. */
public final class CrowdTest {
    public static void main(String[] args) {
        roundTrips();
        rtoIsClamped();
        notTimedTwice();
        onlyAtOrBeyondWhatIsTimed();
        slowStart();
        fastRetransmission();
        whatIsNotTheSame();
        finGoesAgain();
        lessThanASegmentGoesAgain();
        avoidance();
        growthHasLimits();
        Due.finish();
    }

    private static void roundTrips() {
        StreamPair x = new StreamPair();
        x.open(0, 0);
        x.tick(100);
        x.deliver(0);
        x.tick(50);
        x.deliver(0);
        Due.is("SRTT of END 0", x.about(0, 13), 150);
        Due.is("RTO of END 0", x.about(0, 6), 450);
        x.tick(31);
        x.deliver(0);
        Due.is("SRTT of END 1", x.about(1, 13), 81);
        Due.is("RTO of END 1: VAR is cut off", x.about(1, 6), 81 + 4 * 40);
        Due.write(x, 0, 1);
        x.tick(57);
        x.deliver(0);
        x.deliver(0);
        Due.is("SRTT", x.about(0, 13), (7 * 150 + 57) / 8);
        Due.is("RTO", x.about(0, 6), 138 + 4 * ((3 * 75 + 93) / 4));
    }

    private static void rtoIsClamped() {
        StreamPair x = Due.joined(0, 0);
        long srtt = 0;
        long variation = 0;
        int atMost = 0;
        Due.is("RTO", x.about(0, 6), 200);
        for (int i = 0; i < 60; i++) {
            int wait = x.about(0, 6) - 1;
            Due.write(x, 0, 1);
            x.tick(wait);
            x.deliver(0);
            x.deliver(0);
            variation = (3 * variation + Math.abs(srtt - wait)) / 4;
            srtt = (7 * srtt + wait) / 8;
            long rto = Math.max(200, Math.min(60000, srtt + 4 * variation));
            Due.is("SRTT", x.about(0, 13), srtt);
            Due.is("RTO", x.about(0, 6), rto);
            atMost += rto == 60000 ? 1 : 0;
        }
        Due.is("it came to 60000", atMost > 0 ? 1 : 0, 1);
    }

    private static void notTimedTwice() {
        StreamPair x = Due.joined(0, 0);
        Due.write(x, 0, 1);
        x.tick(100);
        Due.write(x, 0, 1);
        x.deliver(1);
        x.deliver(0);
        Due.is("two ACKs", x.count(1), 2);
        x.drop(0);
        x.deliver(0);
        Due.is("the first was TIMED", x.about(0, 13), 100 / 8);
        Due.write(x, 0, 1);
        x.tick(30);
        Due.write(x, 0, 1);
        x.tick(1);
        x.deliver(0);
        x.deliver(1);
        Due.is("an ACK of the first gives R", x.about(0, 13), (7 * 12 + 31) / 8);
        x.tick(100);
        x.deliver(0);
        x.deliver(0);
        Due.is("the second was not TIMED", x.about(0, 13), 14);
        Due.write(x, 0, 1);
        x.tick(1000);
        Due.deliverAll(x);
        Due.is("what was sent again is not TIMED", x.about(0, 13), 14);
    }

    private static void onlyAtOrBeyondWhatIsTimed() {
        StreamPair x = Due.joined(0, 0);
        Due.write(x, 0, 10);
        x.tick(100);
        Due.comes(x, 0, Due.ACK, 1, 10, 65535, 0);
        Due.is("one byte too few", x.about(0, 13), 0);
        x.tick(60);
        Due.comes(x, 0, Due.ACK, 1, 11, 65535, 0);
        Due.is("all of it", x.about(0, 13), 160 / 8);
    }

    private static void slowStart() {
        StreamPair x = new StreamPair();
        x.set(0, 1, 100);
        Due.join(x, 0, 0);
        Due.is("CWND", x.about(0, 4), 400);
        Due.write(x, 0, 400);
        x.deliver(0);
        x.deliver(3);
        Due.is("grows by SEGMENT", x.about(0, 4), 500);
        x.deliver(0);
        x.deliver(0);
        x.deliver(0);
        x.drop(0);
        x.drop(0);
        x.deliver(0);
        Due.is("by SEGMENT at most", x.about(0, 4), 600);
        Due.write(x, 0, 30);
        x.deliver(0);
        x.deliver(0);
        Due.is("by what was acknowledged", x.about(0, 4), 630);
    }

    private static StreamPair withThreeSame(int bytes) {
        StreamPair x = new StreamPair();
        x.set(0, 1, 64);
        Due.join(x, 0, 0);
        Due.write(x, 0, bytes);
        Due.is("segments", x.count(1), 4);
        x.drop(0);
        x.deliver(0);
        x.deliver(0);
        x.deliver(0);
        Due.is("ACKs", x.count(1), 3);
        return x;
    }

    private static void fastRetransmission() {
        StreamPair x = withThreeSame(256);
        x.tick(10);
        x.deliver(0);
        x.deliver(0);
        Due.is("SAME", x.about(0, 12), 2);
        Due.is("nothing yet", x.count(1), 1);
        Due.is("CWND", x.about(0, 4), 256);
        x.deliver(0);
        Due.is("SAME", x.about(0, 12), 3);
        Due.segment("the first again", x, 0, 1, 84, Due.ACK, 1, 1, 65535);
        Due.is("THRESH: half of what is on the way", x.about(0, 5), 128);
        Due.is("CWND", x.about(0, 4), 128);
        Due.is("NXT stays", x.about(0, 14), 256);
        Due.is("TRIES stay", x.about(0, 7), 0);
        Due.is("the timer stays", x.about(0, 11), 190);
        Due.comes(x, 0, Due.ACK, 1, 1, 65535, 0);
        Due.is("SAME", x.about(0, 12), 4);
        Due.is("once alone", x.count(1), 1);
        x.deliver(0);
        Due.is("all came", x.about(1, 2), 256);
        x.deliver(0);
        Due.is("SAME", x.about(0, 12), 0);
        Due.is("nothing was TIMED", x.about(0, 13), 0);
        Due.is("CWND: avoidance", x.about(0, 4), 128 + 64 * 64 / 128);
        Due.is("on the way", x.about(0, 14), 0);
    }

    private static void whatIsNotTheSame() {
        StreamPair x = new StreamPair();
        x.set(0, 1, 64);
        Due.join(x, 0, 0);
        Due.comes(x, 0, Due.ACK, 1, 1, 65535, 0);
        Due.is("nothing is on the way", x.about(0, 12), 0);
        Due.write(x, 0, 256);
        Due.comes(x, 0, Due.ACK, 1, 1, 65535, 1);
        Due.is("with data", x.about(0, 12), 0);
        Due.comes(x, 0, Due.ACK, 2, 1, 1000, 0);
        Due.is("with another window", x.about(0, 12), 0);
        Due.comes(x, 0, Due.ACK, 2, 0, 1000, 0);
        Due.is("with an older number", x.about(0, 12), 0);
        Due.comes(x, 0, Due.ACK, 2, 1, 1000, 0);
        Due.is("the same", x.about(0, 12), 1);
        Due.comes(x, 0, Due.ACK, 2, 1, 999, 0);
        Due.is("another does not set it back", x.about(0, 12), 1);
        x.tick(200);
        Due.is("the timer does", x.about(0, 12), 0);
        Due.comes(x, 0, Due.ACK, 2, 1, 999, 0);
        Due.is("the same", x.about(0, 12), 1);
        Due.comes(x, 0, Due.ACK | Due.FIN, 2, 1, 999, 0);
        Due.is("with FIN", x.about(0, 12), 1);
    }

    private static void finGoesAgain() {
        StreamPair x = Due.joined(0, 0);
        x.close(0);
        x.drop(0);
        for (int i = 0; i < 3; i++) {
            Due.is("nothing yet", x.count(1), 0);
            Due.comes(x, 0, Due.ACK, 1, 1, 65535, 0);
        }
        Due.segment("the FIN again", x, 0, 1, 20, Due.ACK | Due.FIN, 1, 1, 65535);
        Due.is("THRESH", x.about(0, 5), 2920);
        Due.is("on the way", x.about(0, 14), 1);
        x.deliver(0);
        Due.is("it came", x.about(1, 0), 7);
    }

    private static void lessThanASegmentGoesAgain() {
        StreamPair x = Due.joined(0, 0);
        Due.write(x, 0, 5);
        x.close(0);
        Due.dropAll(x);
        for (int i = 0; i < 3; i++) {
            Due.comes(x, 0, Due.ACK, 1, 1, 65535, 0);
        }
        Due.segment("the bytes without the FIN", x, 0, 1, 25, Due.ACK | Due.PSH, 1, 1, 65535);
        Due.is("alone", x.count(1), 1);
        StreamPair y = Due.joined(0, 0);
        Due.write(y, 0, 3000);
        y.tick(200);
        Due.is("NXT - UNA", y.about(0, 14), 1460);
        Due.dropAll(y);
        Due.comes(y, 0, Due.ACK, 1, 2001, 65535, 0);
        Due.is("an ACK beyond NXT takes it along", y.about(0, 14), 1000);
        Due.is("the rest goes again", y.seen(0, -1), 1020);
        Due.is("from there", Due.seq(y, 0), 2001);
    }

    private static void avoidance() {
        StreamPair x = withThreeSame(256);
        x.deliver(0);
        x.deliver(0);
        x.deliver(0);
        Due.deliverAll(x);
        int cwnd = 160;
        Due.is("CWND", x.about(0, 4), cwnd);
        for (int i = 0; i < 100; i++) {
            Due.write(x, 0, 10);
            Due.deliverAll(x);
            cwnd += Math.max(1, 64 * 64 / cwnd);
            Due.is("CWND", x.about(0, 4), cwnd);
        }
    }

    /** More than 512 calls, since no fewer let CWND grow as far. */
    private static void growthHasLimits() {
        StreamPair x = Due.joined(0, 0);
        int cwnd = 5840;
        int smallest = 2000;
        for (int i = 0; i < 400000 && cwnd < 1000000; i++) {
            x.feed(1, 2, 3, 4, 5);
            x.write(0);
            x.deliver(0);
            x.deliver(0);
            int more = cwnd < 65535 ? 20 : Math.max(1, 1460 * 1460 / cwnd);
            smallest = Math.min(smallest, more);
            cwnd = Math.min(1000000, cwnd + more);
            if (x.about(0, 4) != cwnd) {
                Due.is("CWND", x.about(0, 4), cwnd);
                return;
            }
            while (x.about(1, 2) > 0) {
                x.read(1, 7);
            }
        }
        Due.is("CWND", x.about(0, 4), 1000000);
        Due.is("smallest growth", smallest, 2);
        Due.write(x, 0, 1);
        Due.deliverAll(x);
        Due.is("CWND at most", x.about(0, 4), 1000000);
        leastGrowth();
    }

    private static void leastGrowth() {
        StreamPair x = new StreamPair();
        x.set(0, 1, 64);
        Due.join(x, 0, 0);
        for (int i = 0; i < 1100; i++) {
            Due.write(x, 0, 64);
            x.deliver(0);
            x.deliver(0);
            while (x.about(1, 2) > 0) {
                x.read(1, 7);
            }
        }
        int cwnd = x.about(0, 4);
        Due.is("CWND is above THRESH and SEGMENT squared", cwnd > 65535 ? 1 : 0, 1);
        Due.write(x, 0, 1);
        Due.deliverAll(x);
        Due.is("by 1 at least", x.about(0, 4), cwnd + 1);
    }
}
