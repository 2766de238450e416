import java.util.NoSuchElementException;

/** Promise 7. */
public final class ReadTest {
    public static void main(String[] args) {
        bytesInOrder();
        wrongInputs();
        nothingToRead();
        windowOpens();
        windowOpensInOtherStates();
        readOfNoneTellsTheWindow();
        kept();
        Due.finish();
    }

    private static void bytesInOrder() {
        StreamPair x = Due.joined(3, 4);
        Due.lay(x, new byte[] {(byte) 0xFF, 0, 1, (byte) 0x80, 5, 6, 7, 8, 9, 10, 11, 0, 0});
        x.write(0);
        Due.deliverAll(x);
        Due.is("unread", x.about(1, 2), 13);
        Due.is("read(1, 1)", x.read(1, 1), 1L << 56 | 0xFF);
        Due.is("read(1, 3)", x.read(1, 3), 3L << 56 | 0x000180);
        Due.is("read(1, 7)", x.read(1, 7), 7L << 56 | 0x05060708090A0BL);
        Due.is("unread", x.about(1, 2), 2);
        Due.is("read of fewer", x.read(1, 7), 2L << 56);
        Due.is("read of none", x.read(1, 7), 0);
        Due.is("read of the other", x.read(0, 7), 0);
        Due.is("nothing is sent", x.count(1), 0);
    }

    private static void wrongInputs() {
        StreamPair x = Due.inState(7);
        x.abort(0);
        Due.dropAll(x);
        int[] noEnds = {-1, 2, Integer.MAX_VALUE, Integer.MIN_VALUE};
        for (int e : noEnds) {
            Due.throwing("read of no end", NoSuchElementException.class, x, () -> x.read(e, 1));
            Due.throwing("read of nothing right", NoSuchElementException.class, x, () -> x.read(e, 0));
        }
        int[] wrong = {0, 8, -1, Integer.MAX_VALUE, Integer.MIN_VALUE};
        for (int n : wrong) {
            Due.throwing("read of a wrong n", IllegalArgumentException.class, x, () -> x.read(0, n));
        }
        Due.throwing("read behind the FIN of what is RESET", IllegalStateException.class, x, () -> x.read(0, 1));
    }

    private static void nothingToRead() {
        StreamPair x = Due.joined(1, 2);
        Due.write(x, 0, 2);
        x.close(0);
        Due.deliverAll(x);
        Due.is("unread before the FIN", x.read(1, 1), 1L << 56 | Due.patternAt(0));
        Due.is("unread before the FIN", x.read(1, 1), 1L << 56 | Due.patternAt(1));
        Due.throwing("read behind the FIN", IllegalStateException.class, x, () -> x.read(1, 1));
        Due.is("the other end has none", x.read(0, 1), 0);

        StreamPair y = Due.joined(1, 2);
        Due.write(y, 0, 1);
        y.deliver(0);
        y.abort(1);
        Due.is("unread of what is RESET", y.read(1, 7), 1L << 56 | Due.patternAt(0));
        Due.throwing("read of what is RESET", UnsupportedOperationException.class, y, () -> y.read(1, 1));

        StreamPair z = new StreamPair();
        z.open(1, 2);
        z.tick(1000000);
        Due.throwing("read of what is LOST", UnsupportedOperationException.class, z, () -> z.read(0, 1));
        Due.is("read of who waits", z.read(1, 1), 0);
        z.open(1, 2);
        Due.is("read after a new open", z.read(0, 1), 0);
        z.close(0);
        Due.is("read of what closed itself", z.read(0, 1), 0);
    }

    private static void windowOpens() {
        StreamPair x = new StreamPair();
        x.set(1, 0, 2000);
        Due.join(x, 0, 0);
        Due.write(x, 0, 2000);
        Due.deliverAll(x);
        Due.is("the window is closed", x.about(1, 9), 0);
        for (int i = 0; i < 208; i++) {
            x.read(1, 7);
        }
        Due.is("FREE is 1456: nothing is told", x.count(1), 0);
        x.read(1, 3);
        Due.is("FREE is 1459: nothing is told", x.count(1), 0);
        x.read(1, 1);
        Due.segment("FREE is 1460: an ACK", x, 0, 0, 20, Due.ACK, 1, 2001, 1460);
        Due.is("window", x.about(1, 9), 1460);
        x.read(1, 7);
        Due.is("the window is not below SEGMENT: nothing is told", x.count(1), 1);
        x.deliver(0);
        Due.is("FAR", x.about(0, 8), 1460);
        x.set(1, 0, 65535);
        x.read(1, 7);
        Due.is("it is worth it, but the window is not below SEGMENT", x.count(1), 0);
    }

    private static void windowOpensInOtherStates() {
        for (int state = 4; state <= 10; state++) {
            StreamPair x = new StreamPair();
            x.set(0, 0, 100);
            Due.join(x, 1000, 5000);
            bringTo(x, state);
            x.set(0, 0, 65535);
            int sent = x.about(0, 10);
            if (state == 7 || state >= 8) {
                Due.throwing("read in state " + state, IllegalStateException.class, x, () -> x.read(0, 1));
            } else {
                Due.is("read in state " + state, x.read(0, 1), 0);
            }
            Due.is("ACKs in state " + state, x.about(0, 10) - sent, state <= 6 ? 1 : 0);
        }
        StreamPair y = new StreamPair();
        y.set(0, 0, 100);
        Due.join(y, 1000, 5000);
        Due.comes(y, 0, Due.ACK | Due.FIN, 5001, 1001, 100, 3);
        y.set(0, 0, 65535);
        Due.is("CLOSE_WAIT", y.about(0, 0), 7);
        Due.is("read before the FIN", y.read(0, 1) >>> 56, 1);
        Due.is("only the ACK of the FIN", y.count(1), 1);
    }

    private static void bringTo(StreamPair x, int state) {
        if (state == 5 || state == 6 || state == 8 || state == 10) {
            x.close(0);
        }
        if (state == 6 || state == 10) {
            Due.deliverAll(x);
        }
        if (state >= 7) {
            x.close(1);
            x.deliver(x.count(1) - 1);
        }
        if (state == 9) {
            x.close(0);
        }
        Due.is("state", x.about(0, 0), state);
    }

    private static void readOfNoneTellsTheWindow() {
        StreamPair x = new StreamPair();
        x.set(1, 0, 10);
        Due.join(x, 0, 0);
        Due.is("read of none", x.read(1, 7), 0);
        Due.is("nothing is told", x.count(1), 0);
        x.set(1, 0, 1469);
        Due.is("read of none", x.read(1, 7), 0);
        Due.is("one less than SEGMENT more: nothing is told", x.count(1), 0);
        x.set(1, 0, 1470);
        Due.is("read of none", x.read(1, 7), 0);
        Due.segment("SEGMENT more: an ACK", x, 0, 0, 20, Due.ACK, 1, 1, 1470);
    }

    /** Bytes behind a gap are not to be read before the gap is filled. */
    private static void kept() {
        StreamPair x = new StreamPair();
        x.set(0, 1, 64);
        Due.join(x, 0, 0);
        Due.write(x, 0, 192);
        x.deliver(2);
        x.deliver(1);
        Due.is("kept", x.about(1, 15), 128);
        Due.is("unread", x.about(1, 2), 0);
        Due.is("read of none", x.read(1, 7), 0);
        x.deliver(0);
        Due.is("kept", x.about(1, 15), 0);
        Due.is("unread", x.about(1, 2), 192);
        for (int i = 0; i < 192; i++) {
            Due.is("byte " + i, x.read(1, 1), 1L << 56 | Due.patternAt(i));
        }
    }
}
