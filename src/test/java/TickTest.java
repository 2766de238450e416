/** Promise 10, and THE TIMER. */
public final class TickTest {
    public static void main(String[] args) {
        timePasses();
        synIsSentAgain();
        synAndAckIsSentAgain();
        dataIsSentAgain();
        inOneTick();
        orderOfTimers();
        probes();
        triesOfProbes();
        moreThanOneSegmentWaits();
        finishedTimers();
        Due.finish();
    }

    private static void timePasses() {
        StreamPair x = new StreamPair();
        Due.is("tick(1)", x.tick(1), 1);
        Due.is("tick(1,000,000)", x.tick(1000000), 1000001);
        Due.is("tick(999,999)", x.tick(999999), 2000000);
        Due.is("tick(2)", x.tick(2), 2000002);
        for (int i = 1; i <= 400; i++) {
            Due.is("tick", x.tick(1000000), 2000002 + 1000000L * i);
        }
        int[] wrong = {0, -1, 1000001, Integer.MAX_VALUE, Integer.MIN_VALUE};
        for (int n : wrong) {
            Due.refused("tick(" + n + ")", IllegalArgumentException.class, StreamPair::new, y -> y.tick(n));
            Due.refused("tick(" + n + ") with a timer", IllegalArgumentException.class, () -> Due.inState(2),
                    y -> y.tick(n));
        }
    }

    private static void synIsSentAgain() {
        StreamPair x = new StreamPair();
        x.open(1000, 5000);
        x.drop(0);
        int[] due = {1000, 3000, 7000, 15000, 31000, 63000, 123000, 183000};
        int[] rto = {2000, 4000, 8000, 16000, 32000, 60000, 60000, 60000};
        int time = 0;
        for (int i = 0; i < due.length; i++) {
            x.tick(due[i] - time - 1);
            Due.is("not yet due", x.count(1), i);
            Due.is("until it is due", x.about(0, 11), 1);
            x.tick(1);
            time = due[i];
            Due.is("due", x.count(1), i + 1);
            Due.segment("the SYN again", x, i, 1, 24, Due.SYN, 1000, 0, 65535);
            Due.is("TRIES", x.about(0, 7), i + 1);
            Due.is("RTO", x.about(0, 6), rto[i]);
            Due.is("until it is due", x.about(0, 11), rto[i]);
            Due.is("THRESH stays", x.about(0, 5), 65535);
            Due.is("CWND stays", x.about(0, 4), 0);
        }
        x.tick(59999);
        Due.is("SYN_SENT", x.about(0, 0), 2);
        x.tick(1);
        Due.is("CLOSED", x.about(0, 0), 0);
        Due.is("LOST", x.about(0, 1), 2);
        Due.is("no timer", x.about(0, 11), -1);
        Due.is("nothing more is sent", x.count(1), 8);
    }

    private static void synAndAckIsSentAgain() {
        StreamPair x = Due.inState(3);
        x.close(0);
        x.tick(1000);
        Due.segment("the SYN and ACK again", x, 0, 0, 24, Due.SYN | Due.ACK, 5000, 1001, 65535);
        Due.is("TRIES", x.about(1, 7), 1);
        Due.is("RTO", x.about(1, 6), 2000);
        Due.is("CWND stays", x.about(1, 4), 5840);
        Due.is("THRESH stays", x.about(1, 5), 65535);
        Due.is("on the way", x.about(1, 14), 1);
        x.tick(1000000);
        Due.is("LOST", x.about(1, 1), 2);
        Due.is("sent", x.about(1, 10), 9);
    }

    private static void dataIsSentAgain() {
        StreamPair x = Due.joined(1000, 5000);
        Due.write(x, 0, 5000);
        Due.is("segments", x.count(1), 4);
        Due.dropAll(x);
        x.tick(200);
        Due.segment("the first again", x, 0, 1, 1480, Due.ACK, 1001, 5001, 65535);
        Due.is("the first alone", x.count(1), 1);
        Due.is("CWND", x.about(0, 4), 1460);
        Due.is("THRESH: twice SEGMENT is more", x.about(0, 5), 2920);
        Due.is("RTO", x.about(0, 6), 400);
        Due.is("TRIES", x.about(0, 7), 1);
        Due.is("NXT - UNA", x.about(0, 14), 1460);
        Due.is("until it is due", x.about(0, 11), 400);
        x.tick(400);
        Due.is("again", x.count(1), 2);
        Due.is("RTO", x.about(0, 6), 800);
        x.deliver(0);
        x.deliver(1);
        Due.is("TRIES", x.about(0, 7), 0);
        Due.is("RTO stays, for nothing is TIMED", x.about(0, 6), 800);
        Due.is("CWND", x.about(0, 4), 2920);
        Due.is("two more", x.count(1), 3);
        Due.is("SRTT stays", x.about(0, 13), 0);
        StreamPair y = Due.joined(0, 0);
        Due.write(y, 0, 5840);
        y.deliver(0);
        y.deliver(y.count(1) - 1);
        Due.write(y, 0, 3000);
        Due.is("on the way", y.about(0, 14), 7300);
        y.tick(200);
        Due.is("THRESH: half of what is on the way", y.about(0, 5), 3650);
    }

    private static void inOneTick() {
        StreamPair x = Due.joined(0, 0);
        Due.write(x, 0, 1);
        Due.is("tick", x.tick(102199), 102199);
        Due.is("sent nine times", x.count(1), 9);
        Due.is("TRIES", x.about(0, 7), 8);
        Due.is("ESTABLISHED", x.about(0, 0), 4);
        Due.is("until it is due", x.about(0, 11), 1);
        x.tick(1);
        Due.is("CLOSED", x.about(0, 0), 0);
        Due.is("LOST", x.about(0, 1), 2);
        Due.is("sent nine times", x.count(1), 9);
        Due.is("CWND stays when CLOSED", x.about(0, 4), 1460);
        Due.is("FAR stays when CLOSED", x.about(0, 8), 65535);
        Due.is("not acknowledged", x.about(0, 3), 1);
    }

    private static void orderOfTimers() {
        StreamPair x = Due.joined(0, 0);
        Due.write(x, 1, 3);
        Due.write(x, 0, 5);
        Due.dropAll(x);
        x.tick(1000);
        int[] to = {1, 0, 1, 0};
        Due.is("both twice", x.count(1), to.length);
        for (int k = 0; k < to.length; k++) {
            Due.is("END 0 before END 1", x.seen(k, -2), to[k]);
        }
        StreamPair y = Due.joined(0, 0);
        Due.write(y, 1, 3);
        y.tick(50);
        Due.write(y, 0, 5);
        Due.dropAll(y);
        y.tick(950);
        int[] then = {0, 1, 0, 1};
        Due.is("both twice", y.count(1), then.length);
        for (int k = 0; k < then.length; k++) {
            Due.is("at their time", y.seen(k, -2), then[k]);
        }
        Due.is("until it is due", y.about(1, 11), 400);
        Due.is("until it is due", y.about(0, 11), 450);
    }

    private static void probes() {
        StreamPair x = new StreamPair();
        x.set(1, 0, 0);
        Due.join(x, 0, 0);
        Due.write(x, 0, 2);
        Due.is("nothing is sent", x.count(1), 0);
        Due.is("NXT - UNA", x.about(0, 14), 0);
        Due.is("the timer runs", x.about(0, 11), 200);
        x.tick(200);
        Due.segment("one byte", x, 0, 1, 21, Due.ACK, 1, 1, 65535);
        Due.is("the byte", x.seen(0, 20), Due.patternAt(0));
        Due.is("NXT - UNA", x.about(0, 14), 1);
        x.tick(400);
        Due.segment("one byte again", x, 1, 1, 21, Due.ACK, 1, 1, 65535);
        x.set(1, 0, 1);
        x.deliver(0);
        Due.segment("it does not fit, but the answer tells the window", x, 1, 0, 20, Due.ACK, 1, 1, 1);
        x.deliver(0);
        Due.is("now it fits", x.about(1, 2), 1);
        StreamPair y = new StreamPair();
        y.set(1, 0, 0);
        Due.join(y, 0, 0);
        Due.write(y, 0, 1);
        y.tick(200);
        Due.is("one byte that is the last", Due.flags(y, 0), Due.ACK | Due.PSH);
        y.close(0);
        Due.is("the FIN follows", Due.flags(y, 1), Due.ACK | Due.FIN);
        Due.dropAll(y);
        y.tick(400);
        Due.is("one byte and no FIN, as the byte is not OUTPUT's", y.count(1), 1);
        Due.is("NXT - UNA", y.about(0, 14), 1);
    }

    /** An END that is answered with a closed window is never LOST. */
    private static void triesOfProbes() {
        StreamPair x = new StreamPair();
        x.set(1, 0, 0);
        Due.join(x, 0, 0);
        Due.write(x, 0, 2);
        for (int i = 0; i < 20; i++) {
            x.tick(x.about(0, 11));
            Due.is("TRIES", x.about(0, 7), 1);
            x.deliver(0);
            x.deliver(0);
            Due.is("TRIES", x.about(0, 7), 0);
        }
        Due.is("ESTABLISHED", x.about(0, 0), 4);
        Due.is("RTO", x.about(0, 6), 60000);
    }

    private static void moreThanOneSegmentWaits() {
        StreamPair x = Due.joined(0, 0);
        Due.write(x, 0, 2000);
        x.tick(150);
        x.deliver(0);
        x.deliver(1);
        Due.is("the timer starts anew with an ACK", x.about(0, 11), x.about(0, 6));
        Due.is("RTO of R = 150: SRTT 18, VAR 37", x.about(0, 6), 200);
        Due.is("SRTT", x.about(0, 13), 18);
        x.deliver(0);
        x.deliver(0);
        Due.is("off when all is acknowledged", x.about(0, 11), -1);
    }

    private static void finishedTimers() {
        StreamPair x = Due.inState(10);
        Due.is("TIME_WAIT's timer", x.about(0, 11), 4000);
        x.tick(1000000);
        Due.is("CLOSED", x.about(0, 0), 0);
        Due.is("no end", x.about(0, 1), 0);
        Due.is("END 1, whose FIN was lost on the way back, is LOST", x.about(1, 1), 2);
    }
}
