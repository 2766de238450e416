/** TIMED, RTO and TRIES, at their edges. */
public final class PaceTest {
    public static void main(String[] args) {
        firstRoundTrip();
        secondRoundTrip();
        doubling();
        doublingOfTheLeast();
        timedUntilTheTimer();
        timedIsTheNumberBehind();
        timedAnew();
        probeIsTimed();
        finIsTimed();
        synAgainIsNotTimed();
        triesOfTheFin();
        triesOfTheSynAndAck();
        triesFromTheBeginning();
        timeWaitEnds();
        dueAtItsTime();
        bothDueAtOnce();
        Due.finish();
    }

    /** Both ESTABLISHED; RTO of END 0 is 60000, and there was no R yet. */
    private static StreamPair patient() {
        StreamPair x = new StreamPair();
        x.open(1000, 5000);
        x.tick(63000);
        while (x.count(1) > 1) {
            x.drop(0);
        }
        x.deliver(0);
        x.deliver(0);
        x.deliver(0);
        Due.is("RTO", x.about(0, 6), 60000);
        Due.is("SRTT", x.about(0, 13), -1);
        Due.is("TRIES", x.about(0, 7), 0);
        return x;
    }

    private static void roundTrip(StreamPair x, int r) {
        x.feed(1, 2, 3, 4, 5);
        x.write(0);
        if (r > 0) {
            x.tick(r);
        }
        x.deliver(0);
        x.deliver(x.count(1) - 1);
        Due.is("acknowledged", x.about(0, 14), 0);
    }

    private static void firstRoundTrip() {
        int[][] cases = {{0, 200}, {1, 200}, {66, 200}, {67, 200}, {68, 204}, {69, 205}, {70, 210}, {199, 595},
            {200, 600}, {19998, 59994}, {19999, 59995}, {20000, 60000}, {20001, 60000}, {30000, 60000},
            {59999, 60000}};
        for (int[] one : cases) {
            StreamPair x = patient();
            roundTrip(x, one[0]);
            Due.is("SRTT of R " + one[0], x.about(0, 13), one[0]);
            Due.is("RTO of R " + one[0], x.about(0, 6), one[1]);
        }
    }

    /** First R 100: SRTT 100, VAR 50. */
    private static void secondRoundTrip() {
        int[][] cases = {{0, 87, 87 + 4 * 62}, {1, 87, 87 + 4 * 62}, {3, 87, 87 + 4 * 61}, {99, 99, 99 + 4 * 37},
            {100, 100, 100 + 4 * 37}, {101, 100, 100 + 4 * 37}, {102, 100, 100 + 4 * 38}, {107, 100, 100 + 4 * 39},
            {108, 101, 101 + 4 * 39}, {299, 124, 124 + 4 * 87}};
        for (int[] one : cases) {
            StreamPair x = patient();
            roundTrip(x, 100);
            Due.is("RTO of R 100", x.about(0, 6), 300);
            roundTrip(x, one[0]);
            Due.is("SRTT of R " + one[0], x.about(0, 13), one[1]);
            Due.is("RTO of R " + one[0], x.about(0, 6), one[2]);
        }
    }

    private static void doubling() {
        int[][] cases = {{9999, 29995, 59990}, {10000, 30000, 60000}, {10001, 30001, 60000}, {10002, 30006, 60000},
            {100, 300, 600}, {20000, 60000, 60000}};
        for (int[] one : cases) {
            StreamPair x = patient();
            roundTrip(x, one[0]);
            Due.is("RTO", x.about(0, 6), one[1]);
            Due.write(x, 0, 1);
            x.tick(one[1]);
            Due.is("RTO doubled", x.about(0, 6), one[2]);
            Due.is("the timer", x.about(0, 11), one[2]);
            x.tick(one[2]);
            Due.is("RTO doubled again", x.about(0, 6), Math.min(2 * one[2], 60000));
        }
    }

    private static void doublingOfTheLeast() {
        StreamPair x = Due.joined(1000, 5000);
        Due.write(x, 0, 1);
        int rto = 200;
        for (int i = 1; i <= 8; i++) {
            Due.is("RTO", x.about(0, 6), rto);
            Due.is("the timer", x.about(0, 11), rto);
            x.tick(rto);
            rto = Math.min(2 * rto, 60000);
            Due.is("TRIES", x.about(0, 7), i);
        }
        Due.is("RTO", x.about(0, 6), 51200);
    }

    /** At 199 the ACK gives R; at 200 the timer was first, and nothing is TIMED. */
    private static void timedUntilTheTimer() {
        StreamPair x = Due.joined(1000, 5000);
        roundTrip(x, 199);
        Due.is("SRTT", x.about(0, 13), 24);
        StreamPair y = Due.joined(1000, 5000);
        roundTrip(y, 200);
        Due.is("SRTT", y.about(0, 13), 0);
        Due.is("RTO", y.about(0, 6), 400);
    }

    private static void timedIsTheNumberBehind() {
        StreamPair x = new StreamPair();
        x.set(0, 1, 64);
        Due.join(x, 1000, 5000);
        Due.write(x, 0, 128);
        x.tick(80);
        Due.comes(x, 0, Due.ACK, 5001, 1064, 65535, 0);
        Due.is("one byte of the first is missing", x.about(0, 13), 0);
        Due.comes(x, 0, Due.ACK, 5001, 1065, 65535, 0);
        Due.is("the first", x.about(0, 13), 10);
        x.tick(80);
        Due.comes(x, 0, Due.ACK, 5001, 1129, 65535, 0);
        Due.is("the second was not TIMED", x.about(0, 13), 10);
    }

    /** What was sent while another was TIMED is never; what is sent after its R is. */
    private static void timedAnew() {
        StreamPair x = Due.joined(1000, 5000);
        roundTrip(x, 80);
        Due.is("SRTT", x.about(0, 13), 10);
        roundTrip(x, 10);
        Due.is("SRTT", x.about(0, 13), 10);
        roundTrip(x, 18);
        Due.is("SRTT", x.about(0, 13), 11);
    }

    /** Its SEQ is MAX the first time, and not the second. */
    private static void probeIsTimed() {
        StreamPair x = new StreamPair();
        x.set(1, 0, 0);
        Due.join(x, 1000, 5000);
        Due.write(x, 0, 5);
        x.tick(200);
        Due.is("one byte", x.seen(0, -1), 21);
        x.tick(80);
        Due.comes(x, 0, Due.ACK, 5001, 1002, 0, 0);
        Due.is("SRTT", x.about(0, 13), 10);
        StreamPair y = new StreamPair();
        y.set(1, 0, 0);
        Due.join(y, 1000, 5000);
        Due.write(y, 0, 5);
        y.tick(600);
        y.tick(80);
        Due.comes(y, 0, Due.ACK, 5001, 1002, 0, 0);
        Due.is("SRTT", y.about(0, 13), 0);
    }

    private static void finIsTimed() {
        StreamPair x = Due.joined(1000, 5000);
        x.close(0);
        x.tick(80);
        Due.comes(x, 0, Due.ACK, 5001, 1002, 65535, 0);
        Due.is("SRTT", x.about(0, 13), 10);
        StreamPair y = Due.joined(1000, 5000);
        y.close(0);
        y.tick(280);
        Due.comes(y, 0, Due.ACK, 5001, 1002, 65535, 0);
        Due.is("not when it was sent again", y.about(0, 13), 0);
    }

    private static void synAgainIsNotTimed() {
        StreamPair x = new StreamPair();
        x.open(1000, 5000);
        x.tick(999);
        x.deliver(0);
        x.deliver(0);
        Due.is("SRTT", x.about(0, 13), 999);
        Due.is("RTO", x.about(0, 6), 999 + 4 * 499);
        StreamPair y = new StreamPair();
        y.open(1000, 5000);
        y.tick(1000);
        y.deliver(0);
        y.deliver(1);
        Due.is("ESTABLISHED", y.about(0, 0), 4);
        Due.is("SRTT", y.about(0, 13), -1);
        Due.is("RTO", y.about(0, 6), 2000);
    }

    private static void triesOfTheFin() {
        StreamPair x = Due.joined(1000, 5000);
        x.close(0);
        x.tick(102199);
        Due.is("TRIES", x.about(0, 7), 8);
        Due.is("FIN_WAIT_1", x.about(0, 0), 5);
        Due.is("no end", x.about(0, 1), 0);
        x.tick(1);
        Due.is("CLOSED", x.about(0, 0), 0);
        Due.is("LOST", x.about(0, 1), 2);
        Due.is("no timer", x.about(0, 11), -1);
        Due.is("sent nine times", x.count(1), 9);
    }

    private static void triesOfTheSynAndAck() {
        StreamPair x = new StreamPair();
        x.open(1000, 5000);
        x.deliver(0);
        x.close(0);
        x.tick(242999);
        Due.is("TRIES", x.about(1, 7), 8);
        Due.is("SYN_RCVD", x.about(1, 0), 3);
        x.tick(1);
        Due.is("CLOSED", x.about(1, 0), 0);
        Due.is("LOST", x.about(1, 1), 2);
        Due.is("sent nine times", x.count(1), 9);
    }

    /** An ACK of the eighth try lets there be eight more. */
    private static void triesFromTheBeginning() {
        StreamPair x = Due.joined(1000, 5000);
        Due.write(x, 0, 2);
        x.tick(102199);
        Due.is("TRIES", x.about(0, 7), 8);
        Due.dropAll(x);
        Due.comes(x, 0, Due.ACK, 5001, 1002, 65535, 0);
        Due.is("TRIES", x.about(0, 7), 0);
        Due.is("RTO stays", x.about(0, 6), 51200);
        x.tick(51200 + 7 * 60000);
        Due.is("TRIES", x.about(0, 7), 8);
        x.tick(59999);
        Due.is("ESTABLISHED", x.about(0, 0), 4);
        x.tick(1);
        Due.is("LOST", x.about(0, 1), 2);
    }

    private static void timeWaitEnds() {
        StreamPair x = Due.inState(10);
        x.tick(3999);
        Due.is("TIME_WAIT", x.about(0, 0), 10);
        Due.is("the timer", x.about(0, 11), 1);
        x.tick(1);
        Due.is("CLOSED", x.about(0, 0), 0);
        Due.is("no end", x.about(0, 1), 0);
        Due.is("no timer", x.about(0, 11), -1);
    }

    private static void dueAtItsTime() {
        int[] ticks = {999, 1000, 1001, 2999, 3000, 6999, 7000};
        int[] again = {0, 1, 1, 1, 2, 2, 3};
        for (int i = 0; i < ticks.length; i++) {
            StreamPair x = new StreamPair();
            x.open(1000, 5000);
            Due.is("tick", x.tick(ticks[i]), ticks[i]);
            Due.is("sent again in " + ticks[i], x.count(1), 1 + again[i]);
            Due.is("the timer", x.about(0, 11), (1000 << again[i]) * 2 - 1000 - ticks[i]);
        }
    }

    /** END 0 before END 1 where both are due, the earlier one before where they are not. */
    private static void bothDueAtOnce() {
        int[][] cases = {{0, 1, 0}, {1, 0, 1}, {2, 0, 1}};
        for (int[] one : cases) {
            StreamPair x = Due.joined(1000, 5000);
            Due.write(x, 1, 1);
            if (one[0] > 0) {
                x.tick(one[0]);
            }
            Due.write(x, 0, 1);
            Due.dropAll(x);
            x.tick(200);
            Due.is("both", x.count(1), 2);
            Due.is("first to END", x.seen(0, -2), one[1]);
            Due.is("then to END", x.seen(1, -2), one[2]);
        }
    }
}
