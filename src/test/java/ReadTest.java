import java.util.NoSuchElementException;

/** Promise 7. */
public final class ReadTest {
    public static void main(String[] args) {
        bytesInOrder();
        wrongInputs();
        nothingToRead();
        windowOpens();
        windowOpensInOtherStates();
        readOfNoneTellsTheWindow();
        kept();
        windowAtTheSegment();
        windowAtASmallSegment();
        fewerThanAsked();
        noneInAnyState();
        nothingIsToldWhenClosed();
        Due.finish();
    }

    private static void bytesInOrder() {
        StreamPair x = Due.joined(3, 4);
        Due.lay(x, new byte[] {(byte) 0xFF, 0, 1, (byte) 0x80, 5, 6, 7, 8, 9, 10, 11, 0, 0});
        x.write(0);
        Due.deliverAll(x);
        Due.is("unread", x.about(1, 2), 13);
        Due.is("read(1, 1)", x.read(1, 1), 1L << 56 | 0xFF);
        Due.is("read(1, 3)", x.read(1, 3), 3L << 56 | 0x000180);
        Due.is("read(1, 7)", x.read(1, 7), 7L << 56 | 0x05060708090A0BL);
        Due.is("unread", x.about(1, 2), 2);
        Due.is("read of fewer", x.read(1, 7), 2L << 56);
        Due.is("read of none", x.read(1, 7), 0);
        Due.is("read of the other", x.read(0, 7), 0);
        Due.is("nothing is sent", x.count(1), 0);
    }

    private static void wrongInputs() {
        for (int e : Due.NO_ENDS) {
            Due.refused("read of no end", NoSuchElementException.class, ReadTest::finAndReset, x -> x.read(e, 1));
            Due.refused("read of nothing right", NoSuchElementException.class, ReadTest::finAndReset,
                    x -> x.read(e, 0));
        }
        int[] wrong = {0, 8, -1, Integer.MAX_VALUE, Integer.MIN_VALUE};
        for (int n : wrong) {
            String what = "read of " + n;
            Due.refused(what, IllegalArgumentException.class, StreamPair::new, x -> x.read(0, n));
            Due.refused(what + " with bytes", IllegalArgumentException.class, ReadTest::withTen, x -> x.read(0, n));
            Due.refused(what + " behind the FIN", IllegalArgumentException.class, () -> Due.inState(7),
                    x -> x.read(0, n));
            Due.refused(what + " of what is RESET", IllegalArgumentException.class, ReadTest::reset,
                    x -> x.read(0, n));
        }
        for (int n = 1; n <= 7; n++) {
            int right = n;
            Due.is("read of " + n, withTen().read(0, n) >>> 56, n);
            Due.is("read of " + n + " where there are none", Due.joined(1, 2).read(0, n), 0);
            Due.refused("read behind the FIN", IllegalStateException.class, () -> Due.inState(7),
                    x -> x.read(0, right));
            Due.refused("read of what is RESET", UnsupportedOperationException.class, ReadTest::reset,
                    x -> x.read(0, right));
        }
        Due.refused("read behind the FIN of what is RESET", IllegalStateException.class, ReadTest::finAndReset,
                x -> x.read(0, 1));
    }

    private static StreamPair withTen() {
        StreamPair x = Due.joined(1000, 5000);
        Due.comes(x, 0, Due.ACK, 5001, 1001, 100, 10);
        return x;
    }

    private static StreamPair reset() {
        StreamPair x = Due.joined(1000, 5000);
        x.abort(0);
        return x;
    }

    private static StreamPair finAndReset() {
        StreamPair x = Due.inState(7);
        x.abort(0);
        return x;
    }

    private static void nothingToRead() {
        StreamPair x = Due.joined(1, 2);
        Due.write(x, 0, 2);
        x.close(0);
        Due.deliverAll(x);
        Due.is("unread before the FIN", x.read(1, 1), 1L << 56 | Due.patternAt(0));
        Due.is("unread before the FIN", x.read(1, 1), 1L << 56 | Due.patternAt(1));
        Due.throwing("read behind the FIN", IllegalStateException.class, x, () -> x.read(1, 1));
        Due.is("the other end has none", x.read(0, 1), 0);

        StreamPair y = Due.joined(1, 2);
        Due.write(y, 0, 1);
        y.deliver(0);
        y.abort(1);
        Due.is("unread of what is RESET", y.read(1, 7), 1L << 56 | Due.patternAt(0));
        Due.throwing("read of what is RESET", UnsupportedOperationException.class, y, () -> y.read(1, 1));

        StreamPair z = new StreamPair();
        z.open(1, 2);
        z.tick(1000000);
        Due.dropAll(z);
        Due.throwing("read of what is LOST", UnsupportedOperationException.class, z, () -> z.read(0, 1));
        Due.is("read of who waits", z.read(1, 1), 0);
        z.open(1, 2);
        Due.is("read after a new open", z.read(0, 1), 0);
        z.close(0);
        Due.is("read of what closed itself", z.read(0, 1), 0);
    }

    private static void windowOpens() {
        StreamPair x = new StreamPair();
        x.set(1, 0, 2000);
        Due.join(x, 0, 0);
        Due.write(x, 0, 2000);
        Due.deliverAll(x);
        Due.is("the window is closed", x.about(1, 9), 0);
        for (int i = 0; i < 208; i++) {
            x.read(1, 7);
        }
        Due.is("FREE is 1456: nothing is told", x.count(1), 0);
        x.read(1, 3);
        Due.is("FREE is 1459: nothing is told", x.count(1), 0);
        x.read(1, 1);
        Due.segment("FREE is 1460: an ACK", x, 0, 0, 20, Due.ACK, 1, 2001, 1460);
        Due.is("window", x.about(1, 9), 1460);
        x.read(1, 7);
        Due.is("the window is not below SEGMENT: nothing is told", x.count(1), 1);
        x.deliver(0);
        Due.is("FAR", x.about(0, 8), 1460);
        x.set(1, 0, 65535);
        x.read(1, 7);
        Due.is("it is worth it, but the window is not below SEGMENT", x.count(1), 0);
    }

    private static void windowOpensInOtherStates() {
        for (int state = 4; state <= 10; state++) {
            StreamPair x = new StreamPair();
            x.set(0, 0, 100);
            Due.join(x, 1000, 5000);
            bringTo(x, state);
            x.set(0, 0, 65535);
            int sent = x.about(0, 10);
            if (state == 7 || state >= 8) {
                Due.throwing("read in state " + state, IllegalStateException.class, x, () -> x.read(0, 1));
            } else {
                Due.is("read in state " + state, x.read(0, 1), 0);
            }
            Due.is("ACKs in state " + state, x.about(0, 10) - sent, state <= 6 ? 1 : 0);
        }
        StreamPair y = new StreamPair();
        y.set(0, 0, 100);
        Due.join(y, 1000, 5000);
        Due.comes(y, 0, Due.ACK | Due.FIN, 5001, 1001, 100, 3);
        y.set(0, 0, 65535);
        Due.is("CLOSE_WAIT", y.about(0, 0), 7);
        Due.is("read before the FIN", y.read(0, 1) >>> 56, 1);
        Due.is("only the ACK of the FIN", y.count(1), 1);
    }

    private static void bringTo(StreamPair x, int state) {
        if (state == 5 || state == 6 || state == 8 || state == 10) {
            x.close(0);
        }
        if (state == 6 || state == 10) {
            Due.deliverAll(x);
        }
        if (state >= 7) {
            x.close(1);
            x.deliver(x.count(1) - 1);
        }
        if (state == 9) {
            x.close(0);
        }
        Due.is("state", x.about(0, 0), state);
    }

    private static void readOfNoneTellsTheWindow() {
        StreamPair x = new StreamPair();
        x.set(1, 0, 10);
        Due.join(x, 0, 0);
        Due.is("read of none", x.read(1, 7), 0);
        Due.is("nothing is told", x.count(1), 0);
        x.set(1, 0, 1469);
        Due.is("read of none", x.read(1, 7), 0);
        Due.is("one less than SEGMENT more: nothing is told", x.count(1), 0);
        x.set(1, 0, 1470);
        Due.is("read of none", x.read(1, 7), 0);
        Due.segment("SEGMENT more: an ACK", x, 0, 0, 20, Due.ACK, 1, 1, 1470);
    }

    /** Bytes behind a gap are not to be read before the gap is filled. */
    private static void kept() {
        StreamPair x = new StreamPair();
        x.set(0, 1, 64);
        Due.join(x, 0, 0);
        Due.write(x, 0, 192);
        x.deliver(2);
        x.deliver(1);
        Due.is("kept", x.about(1, 15), 128);
        Due.is("unread", x.about(1, 2), 0);
        Due.is("read of none", x.read(1, 7), 0);
        x.deliver(0);
        Due.is("kept", x.about(1, 15), 0);
        Due.is("unread", x.about(1, 2), 192);
        for (int i = 0; i < 192; i++) {
            Due.is("byte " + i, x.read(1, 1), 1L << 56 | Due.patternAt(i));
        }
    }

    /** EDGE - RCV below SEGMENT, and RCV + FREE - EDGE SEGMENT or more: each at its edge. */
    private static void windowAtTheSegment() {
        int[][] cases = {{1459, 2919, 1}, {1459, 2918, 0}, {1460, 2920, 0}, {1460, 65535, 0}, {0, 1460, 1},
            {0, 1459, 0}, {1, 1461, 1}, {1, 1460, 0}, {1458, 65535, 1}};
        for (int[] one : cases) {
            for (int e = 0; e < 2; e++) {
                StreamPair x = new StreamPair();
                x.set(e, 0, one[0]);
                Due.join(x, 1000, 5000);
                x.set(e, 0, one[1]);
                Due.is("set tells nothing", x.count(1), 0);
                Due.is("read", x.read(e, 1), 0);
                Due.is("from " + one[0] + " to " + one[1], x.count(1), one[2]);
                Due.is("EDGE - RCV", x.about(e, 9), one[2] == 1 ? one[1] : one[0]);
                x.read(e, 1);
                Due.is("once alone", x.count(1), one[2]);
            }
        }
    }

    /** SEGMENT counts, not the MSS that is set. */
    private static void windowAtASmallSegment() {
        int[][] cases = {{63, 127, 1}, {63, 126, 0}, {64, 128, 0}};
        for (int[] one : cases) {
            StreamPair x = new StreamPair();
            x.set(0, 1, 64);
            x.set(1, 0, one[0]);
            Due.join(x, 1000, 5000);
            x.set(0, 1, 1460);
            x.set(1, 0, one[1]);
            x.read(1, 7);
            Due.is("from " + one[0] + " to " + one[1], x.count(1), one[2]);
        }
    }

    private static void fewerThanAsked() {
        for (int there = 0; there <= 8; there++) {
            for (int n = 1; n <= 7; n++) {
                StreamPair x = Due.joined(1000, 5000);
                Due.comes(x, 0, Due.ACK, 5001, 1001, 100, there);
                int read = Math.min(there, n);
                long due = 0;
                for (int i = 0; i < read; i++) {
                    due = due << 8 | Due.patternAt(i);
                }
                Due.is("read of " + n + " of " + there, x.read(0, n), (long) read << 56 | due);
                Due.is("left", x.about(0, 2), there - read);
            }
        }
    }

    /** In states without a connection, too, 0 if there are none and nothing ended. */
    private static void noneInAnyState() {
        for (int state = 0; state <= 10; state++) {
            StreamPair x = Due.inState(state);
            int e = Due.endIn(state);
            if (state >= 7) {
                Due.throwing("read in state " + state, IllegalStateException.class, x, () -> x.read(e, 7));
            } else {
                Due.is("read in state " + state, x.read(e, 7), 0);
            }
            x.abort(e);
            Due.dropAll(x);
            if (state >= 7) {
                Due.throwing("read when RESET from " + state, IllegalStateException.class, x, () -> x.read(e, 7));
            } else if (state == 0) {
                Due.is("read when CLOSED", x.read(e, 7), 0);
            } else {
                Due.throwing("read when RESET from " + state, UnsupportedOperationException.class, x,
                        () -> x.read(e, 7));
            }
        }
    }

    /** What is CLOSED with UNREAD bytes reads on, but tells no window. */
    private static void nothingIsToldWhenClosed() {
        for (int way = 0; way < 3; way++) {
            StreamPair x = new StreamPair();
            x.set(0, 0, 10);
            Due.join(x, 1000, 5000);
            Due.comes(x, 0, Due.ACK, 5001, 1001, 65535, 9);
            Due.is("EDGE - RCV", x.about(0, 9), 1);
            breakOff(x, way);
            Due.dropAll(x);
            Due.is("CLOSED", x.about(0, 0), 0);
            x.set(0, 0, 65535);
            int sent = x.about(0, 10);
            Due.is("read of what was broken off", x.read(0, 2) >>> 56, 2);
            Due.is("read of what was broken off", x.read(0, 7) >>> 56, 7);
            Due.throwing("read of none", UnsupportedOperationException.class, x, () -> x.read(0, 1));
            Due.is("segments sent", x.about(0, 10), sent);
            Due.is("EDGE - RCV", x.about(0, 9), 1);
        }
    }

    /** END 0 is RESET by itself or by the other, or LOST. */
    private static void breakOff(StreamPair x, int way) {
        if (way == 0) {
            x.abort(0);
        } else if (way == 1) {
            Due.comes(x, 0, Due.RST, 5010, 0, 0, 0);
        } else {
            Due.write(x, 0, 1);
            x.tick(1000000);
        }
        Due.is("its end", x.about(0, 1), way == 2 ? 2 : 1);
    }
}
