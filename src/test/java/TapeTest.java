/** Promises 2 and 3. */
public final class TapeTest {
    public static void main(String[] args) {
        bytesInOrder();
        ends();
        fullTape();
        Due.finish();
    }

    private static void bytesInOrder() {
        StreamPair x = new StreamPair();
        Due.is("feed", x.feed(0x01020304, 0x05060708, 0x090A0B0C, -1, Integer.MIN_VALUE), 20);
        Due.is("feed again", x.feed(0, 0x7F, 0x80, 0xFF00, 0x12345678), 40);
        Due.is("count(3)", x.count(3), 40);
        x.inject(1);
        Due.same("the bytes", Due.hex(Due.bytes(x, 0)),
                "0102030405060708090a0b0cffffffff80000000000000000000007f000000800000ff0012345678");
        Due.is("the tape is taken", x.count(3), 0);
    }

    private static void ends() {
        StreamPair x = new StreamPair();
        Due.is("end(0) of nothing", x.end(0), 0);
        Due.throwing("end(1) of nothing", IllegalArgumentException.class, x, () -> x.end(1));
        Due.throwing("end(-1)", IllegalArgumentException.class, x, () -> x.end(-1));
        x.feed(0x01020304, 0x05060708, 0, 0, 0);
        Due.is("end(20)", x.end(20), 20);
        Due.throwing("end(21)", IllegalArgumentException.class, x, () -> x.end(21));
        Due.throwing("end of the greatest", IllegalArgumentException.class, x, () -> x.end(Integer.MAX_VALUE));
        Due.throwing("end of the least", IllegalArgumentException.class, x, () -> x.end(Integer.MIN_VALUE));
        Due.is("end(5)", x.end(5), 5);
        Due.is("count(3)", x.count(3), 5);
        Due.is("feed behind it", x.feed(0x11121314, 0x15161718, 0x191A1B1C, 0x1D1E1F20, 0x21222324), 25);
        x.inject(0);
        Due.same("the bytes", Due.hex(Due.bytes(x, 0)), "01020304051112131415161718191a1b1c1d1e1f2021222324");
        Due.is("end(0)", x.end(0), 0);
    }

    /** More than 512 calls, since no fewer fill the tape. */
    private static void fullTape() {
        StreamPair x = new StreamPair();
        for (int i = 1; i <= 3276; i++) {
            Due.is("feed", x.feed(i, i, i, i, i), 20 * i);
        }
        Due.throwing("feed without room", IllegalStateException.class, x, () -> x.feed(1, 2, 3, 4, 5));
        Due.is("count(3)", x.count(3), 65520);
        x.end(65517);
        Due.throwing("feed with room for 19", IllegalStateException.class, x, () -> x.feed(1, 2, 3, 4, 5));
        x.end(65516);
        Due.is("feed with room for just 20", x.feed(1, 2, 3, 4, 5), 65536);
        Due.throwing("feed of a full tape", IllegalStateException.class, x, () -> x.feed(1, 2, 3, 4, 5));
        Due.is("end of all", x.end(65536), 65536);
    }
}
