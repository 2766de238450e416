/** TIMED, CWND, THRESH, SAME and fast retransmission, as the terms tell them. */
public final class CrowdTest {
    public static void main(String[] args) {
        roundTrips();
        rtoIsClamped();
        notTimedTwice();
        onlyAtOrBeyondWhatIsTimed();
        slowStart();
        fastRetransmission();
        whatIsNotTheSame();
        finGoesAgain();
        lessThanASegmentGoesAgain();
        avoidance();
        threshAtItsLeast();
        growthAtThresh();
        growthBySegmentAtMost();
        whatGoesAgain();
        afterThree();
        Due.finish();
    }

    private static void roundTrips() {
        StreamPair x = new StreamPair();
        x.open(0, 0);
        x.tick(100);
        x.deliver(0);
        x.tick(50);
        x.deliver(0);
        Due.is("SRTT of END 0", x.about(0, 13), 150);
        Due.is("RTO of END 0", x.about(0, 6), 450);
        x.tick(31);
        x.deliver(0);
        Due.is("SRTT of END 1", x.about(1, 13), 81);
        Due.is("RTO of END 1: VAR is cut off", x.about(1, 6), 81 + 4 * 40);
        Due.write(x, 0, 1);
        x.tick(57);
        x.deliver(0);
        x.deliver(0);
        Due.is("SRTT", x.about(0, 13), (7 * 150 + 57) / 8);
        Due.is("RTO", x.about(0, 6), 138 + 4 * ((3 * 75 + 93) / 4));
    }

    private static void rtoIsClamped() {
        StreamPair x = Due.joined(0, 0);
        long srtt = 0;
        long variation = 0;
        int atMost = 0;
        Due.is("RTO", x.about(0, 6), 200);
        long rto = 200;
        for (int i = 0; i < 40; i++) {
            int wait = (int) rto - 1;
            Due.write(x, 0, 1);
            x.tick(wait);
            x.deliver(0);
            x.deliver(0);
            variation = (3 * variation + Math.abs(srtt - wait)) / 4;
            srtt = (7 * srtt + wait) / 8;
            rto = Math.max(200, Math.min(60000, srtt + 4 * variation));
            Due.is("SRTT", x.about(0, 13), srtt);
            Due.is("RTO", x.about(0, 6), rto);
            atMost += rto == 60000 ? 1 : 0;
        }
        Due.is("it came to 60000", atMost > 0 ? 1 : 0, 1);
    }

    private static void notTimedTwice() {
        StreamPair x = Due.joined(0, 0);
        Due.write(x, 0, 1);
        x.tick(100);
        Due.write(x, 0, 1);
        x.deliver(1);
        x.deliver(0);
        Due.is("two ACKs", x.count(1), 2);
        x.drop(0);
        x.deliver(0);
        Due.is("the first was TIMED", x.about(0, 13), 100 / 8);
        Due.write(x, 0, 1);
        x.tick(30);
        Due.write(x, 0, 1);
        x.tick(1);
        x.deliver(0);
        x.deliver(1);
        Due.is("an ACK of the first gives R", x.about(0, 13), (7 * 12 + 31) / 8);
        x.tick(100);
        x.deliver(0);
        x.deliver(0);
        Due.is("the second was not TIMED", x.about(0, 13), 14);
        Due.write(x, 0, 1);
        x.tick(1000);
        Due.deliverAll(x);
        Due.is("what was sent again is not TIMED", x.about(0, 13), 14);
    }

    private static void onlyAtOrBeyondWhatIsTimed() {
        StreamPair x = Due.joined(0, 0);
        Due.write(x, 0, 10);
        x.tick(100);
        Due.comes(x, 0, Due.ACK, 1, 10, 65535, 0);
        Due.is("one byte too few", x.about(0, 13), 0);
        x.tick(60);
        Due.comes(x, 0, Due.ACK, 1, 11, 65535, 0);
        Due.is("all of it", x.about(0, 13), 160 / 8);
    }

    private static void slowStart() {
        StreamPair x = new StreamPair();
        x.set(0, 1, 100);
        Due.join(x, 0, 0);
        Due.is("CWND", x.about(0, 4), 400);
        Due.write(x, 0, 400);
        x.deliver(0);
        x.deliver(3);
        Due.is("grows by SEGMENT", x.about(0, 4), 500);
        x.deliver(0);
        x.deliver(0);
        x.deliver(0);
        x.drop(0);
        x.drop(0);
        x.deliver(0);
        Due.is("by SEGMENT at most", x.about(0, 4), 600);
        Due.write(x, 0, 30);
        x.deliver(0);
        x.deliver(0);
        Due.is("by what was acknowledged", x.about(0, 4), 630);
    }

    private static StreamPair withThreeSame(int bytes) {
        StreamPair x = new StreamPair();
        x.set(0, 1, 64);
        Due.join(x, 0, 0);
        Due.write(x, 0, bytes);
        Due.is("segments", x.count(1), 4);
        x.drop(0);
        x.deliver(0);
        x.deliver(0);
        x.deliver(0);
        Due.is("ACKs", x.count(1), 3);
        return x;
    }

    private static void fastRetransmission() {
        StreamPair x = withThreeSame(256);
        x.tick(10);
        x.deliver(0);
        x.deliver(0);
        Due.is("SAME", x.about(0, 12), 2);
        Due.is("nothing yet", x.count(1), 1);
        Due.is("CWND", x.about(0, 4), 256);
        x.deliver(0);
        Due.is("SAME", x.about(0, 12), 3);
        Due.segment("the first again", x, 0, 1, 84, Due.ACK, 1, 1, 65535);
        Due.is("THRESH: half of what is on the way", x.about(0, 5), 128);
        Due.is("CWND", x.about(0, 4), 128);
        Due.is("NXT stays", x.about(0, 14), 256);
        Due.is("TRIES stay", x.about(0, 7), 0);
        Due.is("the timer stays", x.about(0, 11), 190);
        Due.comes(x, 0, Due.ACK, 1, 1, 65535, 0);
        Due.is("SAME", x.about(0, 12), 4);
        Due.is("once alone", x.count(1), 1);
        x.deliver(0);
        Due.is("all came", x.about(1, 2), 256);
        x.deliver(0);
        Due.is("SAME", x.about(0, 12), 0);
        Due.is("nothing was TIMED", x.about(0, 13), 0);
        Due.is("CWND: avoidance", x.about(0, 4), 128 + 64 * 64 / 128);
        Due.is("on the way", x.about(0, 14), 0);
    }

    private static void whatIsNotTheSame() {
        StreamPair x = new StreamPair();
        x.set(0, 1, 64);
        Due.join(x, 0, 0);
        Due.comes(x, 0, Due.ACK, 1, 1, 65535, 0);
        Due.is("nothing is on the way", x.about(0, 12), 0);
        Due.write(x, 0, 256);
        Due.comes(x, 0, Due.ACK, 1, 1, 65535, 1);
        Due.is("with data", x.about(0, 12), 0);
        Due.comes(x, 0, Due.ACK, 2, 1, 1000, 0);
        Due.is("with another window", x.about(0, 12), 0);
        Due.comes(x, 0, Due.ACK, 2, 0, 1000, 0);
        Due.is("with an older number", x.about(0, 12), 0);
        Due.comes(x, 0, Due.ACK, 2, 1, 1000, 0);
        Due.is("the same", x.about(0, 12), 1);
        Due.comes(x, 0, Due.ACK, 2, 1, 999, 0);
        Due.is("another does not set it back", x.about(0, 12), 1);
        x.tick(200);
        Due.is("the timer does", x.about(0, 12), 0);
        Due.comes(x, 0, Due.ACK, 2, 1, 999, 0);
        Due.is("the same", x.about(0, 12), 1);
        Due.comes(x, 0, Due.ACK | Due.FIN, 2, 1, 999, 0);
        Due.is("with FIN", x.about(0, 12), 1);
    }

    private static void finGoesAgain() {
        StreamPair x = Due.joined(0, 0);
        x.close(0);
        x.drop(0);
        for (int i = 0; i < 3; i++) {
            Due.is("nothing yet", x.count(1), 0);
            Due.comes(x, 0, Due.ACK, 1, 1, 65535, 0);
        }
        Due.segment("the FIN again", x, 0, 1, 20, Due.ACK | Due.FIN, 1, 1, 65535);
        Due.is("THRESH", x.about(0, 5), 2920);
        Due.is("on the way", x.about(0, 14), 1);
        x.deliver(0);
        Due.is("it came", x.about(1, 0), 7);
    }

    private static void lessThanASegmentGoesAgain() {
        StreamPair x = Due.joined(0, 0);
        Due.write(x, 0, 5);
        x.close(0);
        Due.dropAll(x);
        for (int i = 0; i < 3; i++) {
            Due.comes(x, 0, Due.ACK, 1, 1, 65535, 0);
        }
        Due.segment("the bytes without the FIN", x, 0, 1, 25, Due.ACK | Due.PSH, 1, 1, 65535);
        Due.is("alone", x.count(1), 1);
        StreamPair y = Due.joined(0, 0);
        Due.write(y, 0, 3000);
        y.tick(200);
        Due.is("NXT - UNA", y.about(0, 14), 1460);
        Due.dropAll(y);
        Due.comes(y, 0, Due.ACK, 1, 2001, 65535, 0);
        Due.is("an ACK beyond NXT takes it along", y.about(0, 14), 1000);
        Due.is("the rest goes again", y.seen(0, -1), 1020);
        Due.is("from there", Due.seq(y, 0), 2001);
    }

    private static void avoidance() {
        StreamPair x = withThreeSame(256);
        x.deliver(0);
        x.deliver(0);
        x.deliver(0);
        Due.deliverAll(x);
        int cwnd = 160;
        Due.is("CWND", x.about(0, 4), cwnd);
        for (int i = 0; i < 30; i++) {
            Due.write(x, 0, 10);
            Due.deliverAll(x);
            cwnd += Math.max(1, 64 * 64 / cwnd);
            Due.is("CWND", x.about(0, 4), cwnd);
        }
    }

    private static StreamPair withSegment64() {
        StreamPair x = new StreamPair();
        x.set(0, 1, 64);
        Due.join(x, 1000, 5000);
        return x;
    }

    /** THRESH becomes half of what is on the way, cut off, but 128 at least, by the timer or by three the same. */
    private static void threshAtItsLeast() {
        int[][] cases = {{1, 128}, {64, 128}, {255, 128}, {256, 128}, {257, 128}, {258, 129}, {259, 129}, {301, 150},
            {319, 159}, {320, 160}};
        for (int[] one : cases) {
            for (int way = 0; way < 2; way++) {
                StreamPair x = withSegment64();
                Due.write(x, 0, 64);
                Due.deliverAll(x);
                Due.is("CWND", x.about(0, 4), 320);
                Due.write(x, 0, one[0]);
                Due.is("on the way", x.about(0, 14), one[0]);
                if (way == 0) {
                    x.tick(200);
                } else {
                    threeSame(x, 1065, 65471);
                }
                Due.is("THRESH with " + one[0] + " on the way", x.about(0, 5), one[1]);
                Due.is("CWND", x.about(0, 4), way == 0 ? 64 : one[1]);
            }
        }
    }

    private static void threeSame(StreamPair x, int ack, int window) {
        Due.is("SAME", x.about(0, 12), 0);
        for (int i = 0; i < 3; i++) {
            Due.comes(x, 0, Due.ACK, 5001, ack, window, 0);
        }
        Due.is("SAME", x.about(0, 12), 3);
    }

    /** CWND 64 and THRESH 128: below THRESH by what was acknowledged, at it by SEGMENT * SEGMENT / CWND. */
    private static void growthAtThresh() {
        int[][] cases = {{63, 127, 137}, {64, 128, 160}, {62, 126, 136}, {200, 128, 160}};
        for (int[] one : cases) {
            StreamPair x = withSegment64();
            Due.write(x, 0, 256);
            x.tick(200);
            Due.is("CWND", x.about(0, 4), 64);
            Due.is("THRESH", x.about(0, 5), 128);
            Due.comes(x, 0, Due.ACK, 5001, 1001 + one[0], 65535, 0);
            Due.is("CWND after " + one[0], x.about(0, 4), one[1]);
            Due.comes(x, 0, Due.ACK, 5001, 1011 + one[0], 65535, 0);
            Due.is("CWND after 10 more", x.about(0, 4), one[2]);
        }
    }

    private static void growthBySegmentAtMost() {
        int[][] cases = {{1, 257}, {63, 319}, {64, 320}, {65, 320}, {256, 320}};
        for (int[] one : cases) {
            StreamPair x = withSegment64();
            Due.write(x, 0, 256);
            Due.comes(x, 0, Due.ACK, 5001, 1001 + one[0], 65535, 0);
            Due.is("CWND after " + one[0], x.about(0, 4), one[1]);
        }
    }

    private static void goesAgain(String what, StreamPair x, int ack, int length, int flags) {
        Due.dropAll(x);
        int nxt = x.about(0, 14);
        for (int i = 0; i < 2; i++) {
            Due.comes(x, 0, Due.ACK, 5001, ack, x.about(0, 8), 0);
        }
        Due.is(what + ": not by two", x.count(1), 0);
        Due.comes(x, 0, Due.ACK, 5001, ack, x.about(0, 8), 0);
        Due.is(what + ": one segment", x.count(1), 1);
        Due.is(what + ": its data", x.seen(0, -1) - 20, length);
        Due.is(what + ": its flags", Due.flags(x, 0), flags);
        Due.is(what + ": its SEQ", Due.seq(x, 0), ack);
        Due.is(what + ": NXT stays", x.about(0, 14), nxt);
    }

    private static void whatGoesAgain() {
        int[] lengths = {1, 63, 64};
        for (int n : lengths) {
            StreamPair x = withSegment64();
            Due.write(x, 0, n);
            goesAgain("all that was sent", x, 1001, n, Due.ACK | Due.PSH);
        }
        StreamPair x = withSegment64();
        Due.write(x, 0, 65);
        goesAgain("SEGMENT of it", x, 1001, 64, Due.ACK);
        StreamPair y = withRoomOf(60);
        Due.write(y, 0, 100);
        Due.is("on the way", y.about(0, 14), 60);
        goesAgain("not what was not sent yet", y, 1001, 60, Due.ACK);
        StreamPair z = withRoomOf(65535);
        Due.write(z, 0, 60);
        Due.write(z, 0, 40);
        Due.comes(z, 0, Due.ACK, 5001, 1001, 60, 0);
        z.tick(200);
        Due.is("on the way", z.about(0, 14), 60);
        goesAgain("to MAX, not to NXT", z, 1001, 100, Due.ACK | Due.PSH);
        StreamPair b = withSegment64();
        Due.write(b, 0, 30);
        b.close(0);
        Due.comes(b, 0, Due.ACK, 5001, 1001, 10, 0);
        b.tick(200);
        Due.is("on the way, with MAX behind the FIN", b.about(0, 14), 10);
        goesAgain("the bytes to MAX, but not the FIN", b, 1001, 30, Due.ACK | Due.PSH);
        StreamPair f = withSegment64();
        Due.write(f, 0, 1);
        f.close(0);
        goesAgain("data before the FIN", f, 1001, 1, Due.ACK | Due.PSH);
        Due.comes(f, 0, Due.ACK, 5001, 1002, 65535, 0);
        goesAgain("the FIN alone", f, 1002, 0, Due.ACK | Due.FIN);
    }

    private static StreamPair withRoomOf(int room) {
        StreamPair x = new StreamPair();
        x.set(1, 0, room);
        Due.join(x, 1000, 5000);
        return x;
    }

    /** Once alone: the fourth and later ones only count. */
    private static void afterThree() {
        StreamPair x = withSegment64();
        Due.write(x, 0, 256);
        Due.dropAll(x);
        threeSame(x, 1001, 65535);
        Due.comes(x, 0, Due.ACK, 5001, 1001, 65535, 3);
        Due.is("data is answered as ever", Due.flags(x, 1), Due.ACK);
        x.drop(1);
        for (int i = 4; i <= 8; i++) {
            Due.comes(x, 0, Due.ACK, 5004, 1001, 65535, 0);
            Due.is("SAME", x.about(0, 12), i);
            Due.is("on their way", x.count(1), 1);
            Due.is("CWND", x.about(0, 4), 128);
        }
        Due.comes(x, 0, Due.ACK, 5004, 1002, 65535, 0);
        Due.is("SAME", x.about(0, 12), 0);
        Due.dropAll(x);
        for (int i = 0; i < 3; i++) {
            Due.is("nothing before the third", x.count(1), 0);
            Due.comes(x, 0, Due.ACK, 5004, 1002, 65535, 0);
        }
        Due.is("three more", x.count(1), 1);
    }
}
