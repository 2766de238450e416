import java.util.NoSuchElementException;

/** Promise 6, and OUTPUT. */
public final class WriteTest {
    public static void main(String[] args) {
        states();
        wrongInputs();
        emptyTape();
        pushAndNumbers();
        crowdLimits();
        windowLimits();
        smallPiecesWait();
        bothWays();
        tooManyWait();
        Due.finish();
    }

    private static void states() {
        for (int state = 0; state <= 10; state++) {
            StreamPair x = Due.inState(state);
            int e = Due.endIn(state);
            x.feed(1, 2, 3, 4, 5);
            if (state == 4 || state == 7) {
                Due.is("write in state " + state, x.write(e), 20);
                Due.is("the tape is taken", x.count(3), 0);
                Due.is("it is sent", x.count(1), 1);
                Due.is("not acknowledged", x.about(e, 3), 20);
            } else {
                Due.throwing("write in state " + state, IllegalStateException.class, x, () -> x.write(e));
                Due.is("the tape stays", x.count(3), 20);
            }
        }
    }

    private static void wrongInputs() {
        StreamPair x = new StreamPair();
        x.feed(1, 2, 3, 4, 5);
        int[] noEnds = {-1, 2, Integer.MAX_VALUE, Integer.MIN_VALUE};
        for (int e : noEnds) {
            Due.throwing("write of no end", NoSuchElementException.class, x, () -> x.write(e));
        }
    }

    private static void emptyTape() {
        StreamPair x = Due.joined(1, 2);
        Due.is("write of nothing", x.write(0), 0);
        Due.is("nothing is sent", x.count(1), 0);
        Due.is("no timer", x.about(0, 11), -1);
    }

    private static void pushAndNumbers() {
        StreamPair x = Due.joined(1000, 5000);
        Due.is("write", Due.write(x, 0, 1600), 1600);
        Due.segment("first", x, 0, 1, 1480, Due.ACK, 1001, 5001, 65535);
        Due.segment("last", x, 1, 1, 160, Due.ACK | Due.PSH, 2461, 5001, 65535);
        for (int i = 0; i < 1460; i++) {
            Due.is("byte " + i, x.seen(0, 20 + i), Due.patternAt(i));
        }
        for (int i = 0; i < 140; i++) {
            Due.is("byte " + (1460 + i), x.seen(1, 20 + i), Due.patternAt(1460 + i));
        }
        Due.is("on the way", x.about(0, 14), 1600);
        Due.is("timer", x.about(0, 11), 200);
        Due.is("sent", x.about(0, 10), 4);
        Due.is("not acknowledged", x.about(0, 3), 1600);
    }

    private static void crowdLimits() {
        StreamPair x = Due.joined(0, 0);
        Due.write(x, 0, 7000);
        Due.is("four segments", x.count(1), 4);
        Due.is("CWND is on the way", x.about(0, 14), 5840);
        Due.is("no PSH", Due.flags(x, 3), Due.ACK);
        x.deliver(0);
        x.deliver(x.count(1) - 1);
        Due.is("CWND grew", x.about(0, 4), 7300);
        Due.is("the rest is sent", x.about(0, 14), 5540);
        Due.is("with PSH", Due.flags(x, x.count(1) - 1), Due.ACK | Due.PSH);
    }

    private static void windowLimits() {
        StreamPair x = new StreamPair();
        x.set(1, 0, 2000);
        Due.join(x, 0, 0);
        Due.write(x, 0, 5000);
        Due.is("only a whole SEGMENT", x.count(1), 1);
        Due.is("on the way", x.about(0, 14), 1460);
        x.deliver(0);
        x.deliver(0);
        Due.is("then what the window takes, as nothing is on the way", x.seen(0, -1), 20 + 540);
        x.deliver(0);
        x.deliver(0);
        Due.is("FAR", x.about(0, 8), 0);
        Due.is("nothing is sent", x.count(1), 0);
        Due.is("but the timer runs", x.about(0, 11), 200);
        Due.is("not acknowledged", x.about(0, 3), 3000);
    }

    /** Less than a SEGMENT goes only if it is all there is, or if nothing is on the way. */
    private static void smallPiecesWait() {
        StreamPair x = new StreamPair();
        x.set(1, 0, 100);
        Due.join(x, 0, 0);
        Due.write(x, 0, 60);
        Due.is("all there is", x.count(1), 1);
        Due.write(x, 0, 60);
        Due.is("40 of 60 wait", x.count(1), 1);
        Due.write(x, 0, 0);
        Due.is("and wait", x.count(1), 1);
        StreamPair y = new StreamPair();
        y.set(1, 0, 100);
        Due.join(y, 0, 0);
        Due.write(y, 0, 60);
        Due.write(y, 0, 40);
        Due.is("all there is fits", y.count(1), 2);
        Due.is("with PSH", Due.flags(y, 1), Due.ACK | Due.PSH);
    }

    private static void bothWays() {
        StreamPair x = Due.joined(10, 20);
        Due.write(x, 1, 5);
        Due.segment("from END 1", x, 0, 0, 25, Due.ACK | Due.PSH, 21, 11, 65535);
        Due.write(x, 0, 7);
        x.deliver(0);
        Due.segment("its ACK", x, 1, 1, 20, Due.ACK, 18, 26, 65530);
        Due.deliverAll(x);
        Due.is("unread", x.about(0, 2), 5);
        Due.is("unread", x.about(1, 2), 7);
    }

    /** More than 512 calls, since no fewer bring as many bytes. */
    private static void tooManyWait() {
        StreamPair x = Due.joined(0, 0);
        Due.is("write", Due.write(x, 0, 65536), 65536);
        Due.is("write", Due.write(x, 0, 65536), 65536);
        Due.is("wait", x.about(0, 3), 131072);
        Due.is("write of one when 131,072 wait", Due.write(x, 0, 1), 1);
        x.feed(1, 2, 3, 4, 5);
        Due.throwing("write when 131,073 wait", UnsupportedOperationException.class, x, () -> x.write(0));
        x.deliver(0);
        x.deliver(x.count(1) - 1);
        Due.is("wait", x.about(0, 3), 131073 - 1460);
        Due.is("write when fewer wait", Due.write(x, 0, 65536), 65536);
        Due.is("wait", x.about(0, 3), 131073 - 1460 + 65536);
        x.close(0);
        Due.throwing("write of too many when closed", IllegalStateException.class, x, () -> x.write(0));
        for (int i = 0; i < 100000 && (x.count(1) > 0 || x.about(0, 0) != 6); i++) {
            if (x.count(1) > 0) {
                x.deliver(0);
            } else {
                x.tick(1000);
            }
            takeAll(x);
        }
        Due.is("all went", taken, 65536 + 65536 + 1 + 65536);
    }

    private static int taken;

    private static void takeAll(StreamPair x) {
        while (x.about(1, 2) > 0) {
            long answer = x.read(1, 7);
            int n = (int) (answer >>> 56);
            for (int i = n - 1; i >= 0; i--) {
                int place = taken < 131072 ? taken % 65536 : taken == 131072 ? 0 : taken - 131073;
                Due.is("byte " + taken, answer >>> 8 * i & 255, Due.patternAt(place));
                taken++;
            }
        }
    }
}
