import java.util.NoSuchElementException;

/** Promise 9. */
public final class AbortTest {
    public static void main(String[] args) {
        states();
        wrongInputs();
        theOtherIsReset();
        whatLostStays();
        numbersOfTheRst();
        Due.finish();
    }

    private static void states() {
        for (int state = 0; state <= 10; state++) {
            StreamPair x = Due.inState(state);
            int e = Due.endIn(state);
            int sent = x.about(e, 10);
            Due.is("abort in state " + state, x.abort(e), state);
            Due.is("CLOSED", x.about(e, 0), 0);
            Due.is("its end", x.about(e, 1), state == 0 ? 0 : 1);
            Due.is("its timer", x.about(e, 11), -1);
            boolean tells = state >= 3 && state <= 8;
            Due.is("RST in state " + state, x.count(1), tells ? 1 : 0);
            Due.is("sent", x.about(e, 10) - sent, tells ? 1 : 0);
            if (tells) {
                Due.is("its flags", Due.flags(x, 0), Due.RST | Due.ACK);
            }
            Due.is("abort again", x.abort(e), 0);
            Due.is("its end", x.about(e, 1), state == 0 ? 0 : 1);
        }
    }

    private static void wrongInputs() {
        for (int e : Due.NO_ENDS) {
            Due.refused("abort of no end", NoSuchElementException.class, () -> Due.joined(1, 2), x -> x.abort(e));
        }
    }

    private static void theOtherIsReset() {
        StreamPair x = Due.joined(1, 2);
        Due.is("abort", x.abort(0), 4);
        x.deliver(0);
        Due.is("CLOSED", x.about(1, 0), 0);
        Due.is("RESET", x.about(1, 1), 1);
        Due.is("no answer", x.count(1), 0);
    }

    private static void whatLostStays() {
        StreamPair x = new StreamPair();
        x.open(1, 2);
        x.tick(1000000);
        Due.is("LOST", x.about(0, 1), 2);
        Due.is("abort of what is CLOSED", x.abort(0), 0);
        Due.is("still LOST", x.about(0, 1), 2);
    }

    private static void numbersOfTheRst() {
        StreamPair x = Due.joined(1000, 5000);
        Due.write(x, 0, 10);
        x.set(0, 0, 100);
        Due.write(x, 1, 4);
        x.deliver(1);
        Due.dropAll(x);
        x.abort(0);
        Due.segment("RST", x, 0, 1, 20, Due.RST | Due.ACK, 1011, 5005, 65531);
        StreamPair y = Due.inState(3);
        y.abort(1);
        Due.segment("RST of SYN_RCVD", y, 0, 0, 20, Due.RST | Due.ACK, 5001, 1001, 65535);
    }
}
