import java.util.NoSuchElementException;

/** Promise 17. */
public final class AboutTest {
    public static void main(String[] args) {
        wrongInputs();
        allFacts();
        meaninglessAtFirst();
        dropsInStepOne();
        whatStaysWhenClosed();
        untilTheTimerIsDue();
        bytesNotAcknowledged();
        sentSegments();
        Due.finish();
    }

    private static void wrongInputs() {
        for (int e : Due.NO_ENDS) {
            Due.refused("about no end", NoSuchElementException.class, () -> Due.joined(1, 2), x -> x.about(e, 0));
            Due.refused("about nothing right", NoSuchElementException.class, StreamPair::new, x -> x.about(e, 17));
            Due.refused("about nothing right", NoSuchElementException.class, StreamPair::new, x -> x.about(e, -1));
        }
        int[] wrong = {-1, 17, Integer.MAX_VALUE, Integer.MIN_VALUE};
        for (int what : wrong) {
            for (int end = 0; end < 2; end++) {
                int e = end;
                Due.refused("about", IllegalArgumentException.class, () -> Due.joined(1, 2), x -> x.about(e, what));
            }
        }
    }

    /** Each of the 17 has a value of its own here. */
    private static void allFacts() {
        StreamPair x = Due.joined(0, 0);
        x.tick(7);
        Due.write(x, 1, 50);
        x.tick(20);
        x.deliver(0);
        x.deliver(0);
        Due.comes(x, 0, Due.ACK, 61, 1, 40000, 13);
        Due.comes(x, 0, new byte[5]);
        Due.comes(x, 0, new byte[6]);
        Due.dropAll(x);
        Due.same("END 0", Due.facts(x, 0), "4 0 50 0 5840 65535 200 0 40000 65485 4 -1 0 0 0 13 2");
        Due.write(x, 0, 2000);
        x.tick(80);
        Due.comes(x, 0, Due.ACK, 61, 1, 40000, 0);
        Due.same("END 0", Due.facts(x, 0), "4 0 50 2000 5840 65535 200 0 40000 65485 6 120 1 0 2000 13 2");
        x.tick(120);
        Due.comes(x, 0, Due.ACK, 61, 1, 40000, 0);
        Due.same("END 0", Due.facts(x, 0), "4 0 50 2000 1460 2920 400 1 40000 65485 7 400 1 0 1460 13 2");
        Due.same("END 1", Due.facts(x, 1), "4 0 0 0 5891 65535 200 0 65485 65535 2 -1 0 2 0 0 0");
    }

    private static void meaninglessAtFirst() {
        StreamPair x = new StreamPair();
        x.open(1, 2);
        for (int e = 0; e < 2; e++) {
            Due.is("CWND before a SYN came", x.about(e, 4), 0);
            Due.is("FAR before a SYN came", x.about(e, 8), 0);
            Due.is("SRTT before the first R", x.about(e, 13), -1);
        }
        x.deliver(0);
        x.deliver(0);
        x.abort(0);
        Due.is("CWND stays", x.about(0, 4), 5840);
        Due.is("FAR stays", x.about(0, 8), 65535);
    }

    private static void dropsInStepOne() {
        StreamPair x = Due.joined(1, 2);
        Due.write(x, 0, 9);
        x.flip(0, 25, 1, false);
        x.deliver(0);
        Due.is("dropped", x.about(1, 16), 1);
        Due.is("not by END 0", x.about(0, 16), 0);
        Due.comes(x, 1, Due.ACK, 90000, 3, 10, 5);
        Due.is("what does not fit is no such drop", x.about(1, 16), 1);
    }

    /** CWND and FAR stay when it is CLOSED, in whatever way; before a SYN came they are 0. */
    private static void whatStaysWhenClosed() {
        for (int state = 1; state <= 10; state++) {
            int e = Due.endIn(state);
            StreamPair x = Due.inState(state);
            int cwnd = x.about(e, 4);
            int far = x.about(e, 8);
            Due.is("CWND in state " + state, cwnd > 0 ? 1 : 0, state <= 2 ? 0 : 1);
            Due.is("FAR in state " + state, far, state <= 2 ? 0 : 65535);
            x.abort(e);
            Due.is("CWND stays", x.about(e, 4), cwnd);
            Due.is("FAR stays", x.about(e, 8), far);
        }
        StreamPair y = Due.inState(10);
        y.tick(4000);
        Due.is("CLOSED", y.about(0, 0), 0);
        Due.is("CWND stays", y.about(0, 4), 5841);
        Due.is("FAR stays", y.about(0, 8), 65535);
        StreamPair z = Due.inState(3);
        Due.comes(z, 1, Due.RST, 1001, 0, 0, 0);
        Due.is("RESET", z.about(1, 1), 1);
        Due.is("CWND stays", z.about(1, 4), 5840);
    }

    private static void untilTheTimerIsDue() {
        StreamPair x = Due.inState(2);
        Due.is("at first", x.about(0, 11), 1000);
        x.tick(1);
        Due.is("later", x.about(0, 11), 999);
        x.tick(998);
        Due.is("just before", x.about(0, 11), 1);
        x.tick(1);
        Due.is("set anew when it is due", x.about(0, 11), 2000);
        Due.is("who waits has none", x.about(1, 11), -1);
        x.close(0);
        Due.is("off when CLOSED", x.about(0, 11), -1);
    }

    /** Bytes alone: neither SYN nor FIN counts. */
    private static void bytesNotAcknowledged() {
        Due.is("SYN_SENT", Due.inState(2).about(0, 3), 0);
        Due.is("SYN_SENT: NXT - UNA", Due.inState(2).about(0, 14), 1);
        StreamPair x = new StreamPair();
        x.set(1, 0, 5);
        Due.join(x, 1000, 5000);
        Due.write(x, 0, 20);
        Due.is("sent and not yet sent", x.about(0, 3), 20);
        Due.is("NXT - UNA", x.about(0, 14), 5);
        Due.comes(x, 0, Due.ACK, 5001, 1004, 65535, 0);
        Due.is("three less", x.about(0, 3), 17);
        x.close(0);
        Due.is("with a FIN", x.about(0, 3), 17);
        Due.is("NXT - UNA with a FIN", x.about(0, 14), 18);
        Due.comes(x, 0, Due.ACK, 5001, 1021, 65535, 0);
        Due.is("the FIN alone is left", x.about(0, 3), 0);
        Due.is("NXT - UNA", x.about(0, 14), 1);
        x.abort(0);
        Due.is("after abort", x.about(0, 3), 0);
    }

    /** Answers count, and what is lost by want of room does (FullNetworkTest); copies and inventions do not. */
    private static void sentSegments() {
        StreamPair x = Due.joined(1000, 5000);
        Due.is("SYN and ACK", x.about(0, 10), 2);
        Due.is("SYN", x.about(1, 10), 1);
        x.close(0);
        x.copy(0);
        x.drop(0);
        Due.is("FIN", x.about(0, 10), 3);
        x.abort(1);
        Due.is("RST", x.about(1, 10), 2);
        x.deliver(0);
        Due.is("an answer of who is CLOSED", x.about(1, 10), 3);
        x.open(1, 2);
        Due.is("of this connection alone", x.about(0, 10), 1);
        Due.is("of this connection alone", x.about(1, 10), 0);
    }
}
