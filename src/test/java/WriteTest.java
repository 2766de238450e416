import java.util.NoSuchElementException;

/** Promise 6, and OUTPUT. */
public final class WriteTest {
    public static void main(String[] args) {
        states();
        wrongInputs();
        emptyTape();
        pushAndNumbers();
        bytesInOrder();
        bytesOfSeveralWrites();
        bytesBehindAnAck();
        crowdLimits();
        windowLimits();
        smallPiecesWait();
        bothWays();
        Due.finish();
    }

    private static void states() {
        for (int state = 0; state <= 10; state++) {
            StreamPair x = Due.inState(state);
            int e = Due.endIn(state);
            x.feed(1, 2, 3, 4, 5);
            if (state == 4 || state == 7) {
                Due.is("write in state " + state, x.write(e), 20);
                Due.is("the tape is taken", x.count(3), 0);
                Due.is("it is sent", x.count(1), 1);
                Due.is("not acknowledged", x.about(e, 3), 20);
            } else {
                Due.throwing("write in state " + state, IllegalStateException.class, x, () -> x.write(e));
                Due.is("the tape stays", x.count(3), 20);
            }
        }
    }

    private static void wrongInputs() {
        for (int e : Due.NO_ENDS) {
            Due.refused("write of no end", NoSuchElementException.class, () -> Due.joined(1, 2), x -> x.write(e));
            Due.refused("write of no end when both are CLOSED", NoSuchElementException.class, StreamPair::new,
                    x -> x.write(e));
        }
    }

    private static void emptyTape() {
        StreamPair x = Due.joined(1, 2);
        Due.is("write of nothing", x.write(0), 0);
        Due.is("nothing is sent", x.count(1), 0);
        Due.is("no timer", x.about(0, 11), -1);
    }

    private static void pushAndNumbers() {
        StreamPair x = Due.joined(1000, 5000);
        Due.is("write", Due.write(x, 0, 1600), 1600);
        Due.segment("first", x, 0, 1, 1480, Due.ACK, 1001, 5001, 65535);
        Due.segment("last", x, 1, 1, 160, Due.ACK | Due.PSH, 2461, 5001, 65535);
        Due.is("on the way", x.about(0, 14), 1600);
        Due.is("timer", x.about(0, 11), 200);
        Due.is("sent", x.about(0, 10), 4);
        Due.is("not acknowledged", x.about(0, 3), 1600);
    }

    private static void bytesInOrder() {
        for (int from = 0; from < 1600; from += 200) {
            StreamPair x = Due.joined(1000, 5000);
            Due.write(x, 0, 1600);
            for (int i = from; i < from + 200; i++) {
                int k = i / 1460;
                Due.is("byte " + i, x.seen(k, 20 + i - 1460 * k), Due.patternAt(i));
            }
        }
    }

    private static void crowdLimits() {
        StreamPair x = Due.joined(0, 0);
        Due.write(x, 0, 7000);
        Due.is("four segments", x.count(1), 4);
        Due.is("CWND is on the way", x.about(0, 14), 5840);
        Due.is("no PSH", Due.flags(x, 3), Due.ACK);
        x.deliver(0);
        x.deliver(x.count(1) - 1);
        Due.is("CWND grew", x.about(0, 4), 7300);
        Due.is("the rest is sent", x.about(0, 14), 5540);
        Due.is("with PSH", Due.flags(x, x.count(1) - 1), Due.ACK | Due.PSH);
    }

    private static void windowLimits() {
        StreamPair x = new StreamPair();
        x.set(1, 0, 2000);
        Due.join(x, 0, 0);
        Due.write(x, 0, 5000);
        Due.is("only a whole SEGMENT", x.count(1), 1);
        Due.is("on the way", x.about(0, 14), 1460);
        x.deliver(0);
        x.deliver(0);
        Due.is("then what the window takes, as nothing is on the way", x.seen(0, -1), 20 + 540);
        x.deliver(0);
        x.deliver(0);
        Due.is("FAR", x.about(0, 8), 0);
        Due.is("nothing is sent", x.count(1), 0);
        Due.is("but the timer runs", x.about(0, 11), 200);
        Due.is("not acknowledged", x.about(0, 3), 3000);
    }

    /** Less than a SEGMENT goes only if it is all there is, or if nothing is on the way. */
    private static void smallPiecesWait() {
        StreamPair x = new StreamPair();
        x.set(1, 0, 100);
        Due.join(x, 0, 0);
        Due.write(x, 0, 60);
        Due.is("all there is", x.count(1), 1);
        Due.write(x, 0, 60);
        Due.is("40 of 60 wait", x.count(1), 1);
        Due.write(x, 0, 0);
        Due.is("and wait", x.count(1), 1);
        StreamPair y = new StreamPair();
        y.set(1, 0, 100);
        Due.join(y, 0, 0);
        Due.write(y, 0, 60);
        Due.write(y, 0, 40);
        Due.is("all there is fits", y.count(1), 2);
        Due.is("with PSH", Due.flags(y, 1), Due.ACK | Due.PSH);
    }

    private static void bothWays() {
        StreamPair x = Due.joined(10, 20);
        Due.write(x, 1, 5);
        Due.segment("from END 1", x, 0, 0, 25, Due.ACK | Due.PSH, 21, 11, 65535);
        Due.write(x, 0, 7);
        x.deliver(0);
        Due.segment("its ACK", x, 1, 1, 20, Due.ACK, 18, 26, 65530);
        Due.deliverAll(x);
        Due.is("unread", x.about(0, 2), 5);
        Due.is("unread", x.about(1, 2), 7);
    }

    /** What waits is sent in its order, however many writes it came by. */
    private static void bytesOfSeveralWrites() {
        int[][] plans = {{30, 50, 100}, {64, 1, 64, 1}, {1, 63, 1}, {65, 64, 63}, {10, 0, 10}, {128, 127, 2}};
        for (int[] plan : plans) {
            StreamPair x = new StreamPair();
            x.set(1, 0, 0);
            Due.join(x, 1000, 5000);
            int all = 0;
            for (int n : plan) {
                Due.lay(x, Due.pattern(all, n));
                Due.is("write", x.write(0), n);
                all += n;
            }
            Due.is("nothing is sent", x.count(1), 0);
            Due.comes(x, 0, Due.ACK, 5001, 1001, 65535, 0);
            Due.is("all at once", x.seen(0, -1), 20 + all);
            Due.same("its bytes", Due.hex(Due.bytes(x, 0, 20, all)), Due.hex(Due.pattern(0, all)));
        }
    }

    /** What was acknowledged makes room; what was not goes again as it was. */
    private static void bytesBehindAnAck() {
        int[] acknowledged = {1, 20, 39, 40, 41, 60, 79};
        for (int n : acknowledged) {
            StreamPair x = Due.joined(1000, 5000);
            Due.lay(x, Due.pattern(0, 40));
            x.write(0);
            Due.lay(x, Due.pattern(40, 40));
            x.write(0);
            Due.comes(x, 0, Due.ACK, 5001, 1001 + n, 65535, 0);
            Due.lay(x, Due.pattern(80, 60));
            x.write(0);
            Due.same("new bytes", Due.hex(Due.bytes(x, 2, 20, 60)), Due.hex(Due.pattern(80, 60)));
            x.tick(1000);
            Due.is("all the rest again", x.seen(3, -1), 20 + 140 - n);
            Due.same("its bytes", Due.hex(Due.bytes(x, 3, 20, 140 - n)), Due.hex(Due.pattern(n, 140 - n)));
        }
    }
}
