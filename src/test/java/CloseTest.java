import java.util.NoSuchElementException;

/** Promise 8, and how connections end. */
public final class CloseTest {
    public static void main(String[] args) {
        states();
        wrongInputs();
        oneAfterTheOther();
        bothAtOnce();
        finBehindData();
        finInClosedWindow();
        finIsLost();
        closedBeforeTheSyn();
        closeTwice();
        closedEndTakesData();
        Due.finish();
    }

    private static void states() {
        int[] then = {-1, 0, 0, -1, 5, -1, -1, 9, -1, -1, -1};
        for (int state = 0; state <= 10; state++) {
            StreamPair x = Due.inState(state);
            int e = Due.endIn(state);
            if (then[state] < 0) {
                Due.throwing("close in state " + state, IllegalStateException.class, x, () -> x.close(e));
                continue;
            }
            Due.is("close in state " + state, x.close(e), then[state]);
            Due.is("state", x.about(e, 0), then[state]);
            Due.is("its end", x.about(e, 1), 0);
            Due.is("the timer", x.about(e, 11), then[state] == 0 ? -1 : 200);
            Due.is("segments sent", x.count(1), then[state] == 0 ? 0 : 1);
        }
    }

    private static void wrongInputs() {
        for (int e : Due.NO_ENDS) {
            Due.refused("close of no end", NoSuchElementException.class, () -> Due.joined(1, 2), x -> x.close(e));
            Due.refused("close of no end when both are CLOSED", NoSuchElementException.class, StreamPair::new,
                    x -> x.close(e));
        }
    }

    private static void oneAfterTheOther() {
        StreamPair x = Due.joined(1000, 5000);
        Due.is("close(0)", x.close(0), 5);
        Due.segment("the FIN", x, 0, 1, 20, Due.FIN | Due.ACK, 1001, 5001, 65535);
        Due.is("on the way", x.about(0, 14), 1);
        Due.is("bytes not acknowledged", x.about(0, 3), 0);
        x.deliver(0);
        Due.is("CLOSE_WAIT", x.about(1, 0), 7);
        Due.segment("its ACK", x, 0, 0, 20, Due.ACK, 5001, 1002, 65535);
        x.deliver(0);
        Due.is("FIN_WAIT_2", x.about(0, 0), 6);
        Due.is("no timer", x.about(0, 11), -1);
        Due.write(x, 1, 3);
        x.deliver(0);
        Due.is("data still comes", x.about(0, 2), 3);
        x.deliver(0);
        Due.is("close(1)", x.close(1), 9);
        Due.segment("the other FIN", x, 0, 0, 20, Due.FIN | Due.ACK, 5004, 1002, 65535);
        x.deliver(0);
        Due.is("TIME_WAIT", x.about(0, 0), 10);
        Due.is("its timer", x.about(0, 11), 4000);
        Due.segment("its ACK", x, 0, 1, 20, Due.ACK, 1002, 5005, 65532);
        x.deliver(0);
        Due.is("CLOSED", x.about(1, 0), 0);
        Due.is("its end", x.about(1, 1), 0);
        Due.is("no timer", x.about(1, 11), -1);
        Due.is("nothing is sent for it", x.count(1), 0);
        x.tick(3999);
        Due.is("still TIME_WAIT", x.about(0, 0), 10);
        x.tick(1);
        Due.is("CLOSED", x.about(0, 0), 0);
        Due.is("its end", x.about(0, 1), 0);
        Due.is("unread stays", x.read(0, 7) >>> 56, 3);
    }

    private static void bothAtOnce() {
        StreamPair x = Due.joined(1000, 5000);
        x.close(0);
        x.close(1);
        x.deliver(0);
        Due.is("CLOSING", x.about(1, 0), 8);
        x.deliver(0);
        Due.is("CLOSING", x.about(0, 0), 8);
        Due.is("two ACKs", x.count(1), 2);
        x.tick(100);
        x.deliver(0);
        Due.is("TIME_WAIT", x.about(0, 0), 10);
        Due.is("its timer", x.about(0, 11), 4000);
        x.deliver(0);
        Due.is("TIME_WAIT", x.about(1, 0), 10);
        Due.is("nothing is on its way", x.count(1), 0);
        x.tick(4000);
        Due.is("CLOSED", x.about(0, 0) + x.about(1, 0), 0);
    }

    private static void finBehindData() {
        StreamPair x = Due.joined(0, 0);
        Due.write(x, 0, 7000);
        Due.is("close", x.close(0), 5);
        Due.is("no FIN before the data has gone", x.count(1), 4);
        Due.deliverAll(x);
        Due.is("all came", x.about(1, 2), 7000);
        Due.is("and the FIN", x.about(1, 0), 7);
        Due.is("FIN_WAIT_2", x.about(0, 0), 6);
        StreamPair y = Due.joined(0, 0);
        Due.write(y, 0, 10);
        y.close(0);
        Due.segment("data", y, 0, 1, 30, Due.ACK | Due.PSH, 1, 1, 65535);
        Due.segment("FIN without data", y, 1, 1, 20, Due.FIN | Due.ACK, 11, 1, 65535);
        y.deliver(1);
        Due.is("a FIN behind a gap is forgotten", y.about(1, 0), 4);
        y.deliver(0);
        Due.is("so it is not taken now", y.about(1, 0), 4);
        Due.is("RCV", Due.ack(y, 1), 11);
    }

    private static void finInClosedWindow() {
        StreamPair x = new StreamPair();
        x.set(1, 0, 10);
        Due.join(x, 0, 0);
        Due.write(x, 0, 10);
        Due.deliverAll(x);
        Due.is("FAR", x.about(0, 8), 0);
        x.close(0);
        Due.is("the FIN needs no window", Due.flags(x, 0), Due.FIN | Due.ACK);
        x.deliver(0);
        Due.is("but it does not fit", x.about(1, 0), 4);
        Due.segment("so it is answered", x, 0, 0, 20, Due.ACK, 1, 11, 0);
    }

    private static void finIsLost() {
        StreamPair x = Due.joined(0, 0);
        x.close(0);
        x.drop(0);
        x.tick(200);
        Due.segment("the FIN again", x, 0, 1, 20, Due.FIN | Due.ACK, 1, 1, 65535);
        Due.is("on the way", x.about(0, 14), 1);
        Due.deliverAll(x);
        Due.is("FIN_WAIT_2", x.about(0, 0), 6);
    }

    private static void closedBeforeTheSyn() {
        StreamPair x = new StreamPair();
        x.open(1000, 5000);
        Due.is("close of who waits", x.close(1), 0);
        x.deliver(0);
        Due.segment("the SYN is refused", x, 0, 0, 20, Due.RST | Due.ACK, 0, 1001, 0);
        x.deliver(0);
        Due.is("CLOSED", x.about(0, 0), 0);
        Due.is("RESET", x.about(0, 1), 1);
        Due.is("END 1 has no end", x.about(1, 1), 0);
    }

    private static void closeTwice() {
        int[] states = {1, 2, 4, 7};
        for (int state : states) {
            int e = Due.endIn(state);
            StreamPair x = Due.inState(state);
            x.close(e);
            Due.throwing("close again after state " + state, IllegalStateException.class, x, () -> x.close(e));
            Due.throwing("write after close", IllegalStateException.class, x, () -> x.write(e));
        }
    }

    /** An END that closed still takes what comes, until the other's FIN. */
    private static void closedEndTakesData() {
        int[] states = {5, 6};
        for (int state : states) {
            StreamPair x = Due.inState(state);
            Due.comes(x, 0, Due.ACK, 5001, state == 6 ? 1002 : 1001, 65535, 7);
            Due.is("unread in state " + state, x.about(0, 2), 7);
            Due.is("read", x.read(0, 7) >>> 56, 7);
            Due.comes(x, 0, Due.ACK | Due.FIN, 5008, state == 6 ? 1002 : 1001, 65535, 0);
            Due.throwing("read", IllegalStateException.class, x, () -> x.read(0, 7));
        }
    }
}
