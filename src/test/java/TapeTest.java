import java.util.NoSuchElementException;

/** Promises 2 and 3, and the TAPE of the terms. That it takes 65,536 bytes is in BeyondTest. */
public final class TapeTest {
    public static void main(String[] args) {
        emptyAtFirst();
        bytesInOrder();
        lengths();
        endsWithinIt();
        endsOutsideIt();
        bytesBehindAnEnd();
        cutBytesAreGone();
        takenByWrite();
        takenByInject();
        notTakenByWhatThrows();
        notTakenByOthers();
        Due.finish();
    }

    private static StreamPair with(int... numbers) {
        StreamPair x = new StreamPair();
        for (int i = 0; i < numbers.length; i += 5) {
            x.feed(numbers[i], numbers[i + 1], numbers[i + 2], numbers[i + 3], numbers[i + 4]);
        }
        return x;
    }

    /** What lies on the tape, seen as a segment. */
    private static String taken(StreamPair x) {
        x.inject(1);
        return Due.hex(Due.bytes(x, x.count(1) - 1));
    }

    private static void emptyAtFirst() {
        StreamPair x = new StreamPair();
        Due.is("count(3)", x.count(3), 0);
        Due.same("its bytes", taken(x), "");
    }

    private static void bytesInOrder() {
        StreamPair x = with(0x01020304, 0x05060708, 0x090A0B0C, -1, Integer.MIN_VALUE,
                0, 0x7F, 0x80, 0xFF00, 0x12345678);
        Due.same("the bytes", taken(x),
                "0102030405060708090a0b0cffffffff80000000000000000000007f000000800000ff0012345678");
    }

    private static void lengths() {
        StreamPair x = new StreamPair();
        for (int i = 1; i <= 400; i++) {
            Due.is("feed", x.feed(i, i, i, i, i), 20 * i);
        }
        Due.is("count(3)", x.count(3), 8000);
    }

    private static void endsWithinIt() {
        Due.is("end(0) of nothing", new StreamPair().end(0), 0);
        for (int n = 0; n <= 20; n++) {
            StreamPair x = with(0x01020304, 0x05060708, 0x090A0B0C, 0x0D0E0F10, 0x11121314);
            Due.is("end(" + n + ")", x.end(n), n);
            Due.is("count(3)", x.count(3), n);
            Due.same("the bytes", taken(x), "0102030405060708090a0b0c0d0e0f1011121314".substring(0, 2 * n));
        }
    }

    private static void endsOutsideIt() {
        int[] outsideNothing = {-1, 1, Integer.MAX_VALUE, Integer.MIN_VALUE};
        for (int n : outsideNothing) {
            Due.refused("end of nothing", IllegalArgumentException.class, StreamPair::new, x -> x.end(n));
        }
        int[] outside20 = {-1, 21, 65536, Integer.MAX_VALUE, Integer.MIN_VALUE};
        for (int n : outside20) {
            Due.refused("end of 20", IllegalArgumentException.class, () -> with(1, 2, 3, 4, 5), x -> x.end(n));
        }
        StreamPair y = with(1, 2, 3, 4, 5);
        y.end(7);
        Due.throwing("end behind an earlier end", IllegalArgumentException.class, y, () -> y.end(8));
        Due.is("end at an earlier end", y.end(7), 7);
    }

    private static void bytesBehindAnEnd() {
        StreamPair x = with(0x01020304, 0x05060708, 0, 0, 0);
        x.end(5);
        Due.is("feed", x.feed(0x11121314, 0x15161718, 0x191A1B1C, 0x1D1E1F20, 0x21222324), 25);
        Due.same("the bytes", taken(x), "01020304051112131415161718191a1b1c1d1e1f2021222324");
    }

    private static void cutBytesAreGone() {
        StreamPair x = with(-1, -1, -1, -1, -1, -1, -1, -1, -1, -1);
        x.end(0);
        Due.same("no bytes", taken(x), "");
        Due.is("feed", x.feed(1, 2, 3, 4, 5), 20);
        Due.same("the bytes", taken(x), "0000000100000002000000030000000400000005");
    }

    private static void takenByWrite() {
        StreamPair x = Due.joined(1, 2);
        x.feed(1, 2, 3, 4, 5);
        Due.is("write", x.write(0), 20);
        Due.is("the tape is empty", x.count(3), 0);
        Due.is("write of an empty tape", x.write(0), 0);
        Due.is("feed", x.feed(6, 7, 8, 9, 10), 20);
        Due.same("no old bytes", taken(x), "00000006000000070000000800000009" + "0000000a");
    }

    private static void takenByInject() {
        StreamPair x = with(1, 2, 3, 4, 5);
        Due.is("inject", x.inject(0), 1);
        Due.is("the tape is empty", x.count(3), 0);
        Due.is("inject of an empty tape", x.inject(0), 2);
        Due.is("its length", x.seen(1, -1), 0);
    }

    private static void notTakenByWhatThrows() {
        String whole = "0000000100000002000000030000000400000005";
        StreamPair x = with(1, 2, 3, 4, 5);
        Due.throwing("write in CLOSED", IllegalStateException.class, x, () -> x.write(0));
        Due.throwing("write to no end", NoSuchElementException.class, x, () -> x.write(2));
        Due.throwing("inject to no end", NoSuchElementException.class, x, () -> x.inject(2));
        Due.throwing("end outside", IllegalArgumentException.class, x, () -> x.end(21));
        Due.same("the bytes", taken(x), whole);

        StreamPair y = new StreamPair();
        Due.lay(y, Due.pattern(0, 1485));
        Due.throwing("inject of 1485 bytes", IllegalArgumentException.class, y, () -> y.inject(0));
        y.end(30);
        Due.same("the bytes", taken(y), Due.hex(Due.pattern(0, 30)));
    }

    private static void notTakenByOthers() {
        StreamPair x = with(1, 2, 3, 4, 5);
        x.open(1, 2);
        x.set(0, 0, 5);
        x.deliver(0);
        x.copy(0);
        x.flip(0, 3, 4, true);
        x.drop(0);
        x.tick(1000);
        x.read(0, 7);
        x.close(0);
        x.abort(1);
        Due.is("count(3)", x.count(3), 20);
        Due.same("the bytes", taken(x), "0000000100000002000000030000000400000005");
    }
}
