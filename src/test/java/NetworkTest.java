import java.util.NoSuchElementException;

/** Promises 11 to 16: deliver, drop, copy, flip, inject, seen. That there is room for 512 is in FullNetworkTest. */
public final class NetworkTest {
    private static final int[] NO_SEGMENTS = {-1, 3, Integer.MAX_VALUE, Integer.MIN_VALUE};

    public static void main(String[] args) {
        wrongSegments();
        deliversOneOfSeveral();
        drops();
        copies();
        flips();
        flipsAtTheEnds();
        flipsOfShortSegments();
        mendsOddLengths();
        mendsWithCarries();
        injectsRefused();
        injectsTheLongest();
        injects();
        longestComes();
        sees();
        nothingOldShows();
        nothingIsShared();
        Due.finish();
    }

    private static StreamPair withThree() {
        StreamPair x = Due.joined(1000, 5000);
        Due.write(x, 0, 1);
        Due.write(x, 0, 2);
        Due.write(x, 0, 3);
        Due.is("on their way", x.count(1), 3);
        return x;
    }

    private static void wrongSegments() {
        wrongSegmentsOf(NetworkTest::withThree, NO_SEGMENTS);
        int[] noneOfNone = {0, -1, 1, Integer.MAX_VALUE, Integer.MIN_VALUE};
        wrongSegmentsOf(StreamPair::new, noneOfNone);
    }

    private static void wrongSegmentsOf(Due.Make make, int[] wrong) {
        for (int k : wrong) {
            Due.refused("deliver", NoSuchElementException.class, make, x -> x.deliver(k));
            Due.refused("drop", NoSuchElementException.class, make, x -> x.drop(k));
            Due.refused("copy", NoSuchElementException.class, make, x -> x.copy(k));
            Due.refused("flip", NoSuchElementException.class, make, x -> x.flip(k, 0, 1, true));
            Due.refused("flip of no place", NoSuchElementException.class, make, x -> x.flip(k, -1, 1, true));
            Due.refused("seen", NoSuchElementException.class, make, x -> x.seen(k, 0));
            Due.refused("seen of a length", NoSuchElementException.class, make, x -> x.seen(k, -1));
            Due.refused("seen of an end", NoSuchElementException.class, make, x -> x.seen(k, -2));
            Due.refused("seen of no place", NoSuchElementException.class, make, x -> x.seen(k, -3));
        }
    }

    private static void deliversOneOfSeveral() {
        StreamPair x = withThree();
        Due.is("deliver(1): one went, an ACK came", x.deliver(1), 3);
        Due.is("the first stays", Due.seq(x, 0), 1001);
        Due.is("the third is the second", Due.seq(x, 1), 1004);
        Due.is("the newest is last", x.seen(2, -2), 0);
        Due.is("kept", x.about(1, 15), 2);
        Due.is("deliver(2) of the ACK", x.deliver(2), 2);
        Due.is("SAME", x.about(0, 12), 1);
    }

    private static void drops() {
        StreamPair x = withThree();
        Due.is("drop(1)", x.drop(1), 2);
        Due.is("the first stays", Due.seq(x, 0), 1001);
        Due.is("the third is the second", Due.seq(x, 1), 1004);
        Due.is("drop(1)", x.drop(1), 1);
        Due.is("drop(0)", x.drop(0), 0);
        Due.is("it is not lost by want of room", x.count(4), 0);
        Due.is("nothing came", x.about(1, 2) + x.about(1, 15), 0);
    }

    private static void copies() {
        StreamPair x = withThree();
        byte[] second = Due.bytes(x, 1);
        Due.is("copy(1)", x.copy(1), 4);
        Due.same("the copy", Due.hex(Due.bytes(x, 3)), Due.hex(second));
        Due.is("it goes there too", x.seen(3, -2), 1);
        Due.is("sent is as before", x.about(0, 10), 5);
        x.flip(3, 20, 255, true);
        Due.same("the first stays as it is when the copy is altered", Due.hex(Due.bytes(x, 1)), Due.hex(second));
        x.flip(1, 0, 7, false);
        Due.is("and the copy", x.seen(3, 0), second[0] & 255);
        Due.is("deliver of one", x.deliver(0), 4);
        Due.is("copy of an ACK", x.copy(3), 5);
        Due.is("it goes to END 0", x.seen(4, -2), 0);
    }

    private static void flips() {
        StreamPair x = withThree();
        int before = x.seen(2, 21);
        int checksum = Due.number(x, 2, 16, 2);
        Due.is("flip without mending", x.flip(2, 21, 0x55, false), checksum);
        Due.is("the byte", x.seen(2, 21), before ^ 0x55);
        int mended = x.flip(2, 21, 0, true);
        Due.is("mended", mended, Due.number(x, 2, 16, 2));
        Due.is("sum", Due.sum(Due.bytes(x, 2)), 0xFFFF);
        Due.is("flip back", x.flip(2, 21, 0x55, true), checksum);
        Due.is("low 8 bits alone", x.flip(2, 21, 0x7FFFFF00, true), checksum);
        Due.is("the byte", x.seen(2, 21), before);
        Due.is("all 8", x.flip(2, 21, -1, false), checksum);
        Due.is("the byte", x.seen(2, 21), before ^ 255);
        Due.is("flip of the checksum", x.flip(2, 16, 0x80, false), checksum ^ 0x8000);
        Due.is("and of its low byte", x.flip(2, 17, 1, false), checksum ^ 0x8001);
        x.flip(2, 21, 255, false);
        Due.is("mended whatever it was", x.flip(2, 16, 0x11, true), checksum);
    }

    private static void flipsAtTheEnds() {
        StreamPair x = withThree();
        int checksum = Due.number(x, 2, 16, 2);
        Due.is("the first place", x.flip(2, 0, 0, false), checksum);
        Due.is("the last place", x.flip(2, 22, 0, false), checksum);
        x.flip(2, 0, 0x80, false);
        x.flip(2, 22, 1, false);
        Due.is("the first byte", x.seen(2, 0), 0x9C ^ 0x80);
        Due.is("the last byte", x.seen(2, 22), Due.patternAt(2) ^ 1);
        int[] noPlaces = {-1, -2, 23, Integer.MAX_VALUE, Integer.MIN_VALUE};
        for (int at : noPlaces) {
            Due.refused("flip at " + at, IndexOutOfBoundsException.class, NetworkTest::withThree,
                    y -> y.flip(2, at, 1, true));
            Due.refused("flip at " + at, IndexOutOfBoundsException.class, NetworkTest::withThree,
                    y -> y.flip(2, at, 1, false));
        }
        Due.refused("flip of nothing", IndexOutOfBoundsException.class, NetworkTest::withEmpty,
                y -> y.flip(0, 0, 1, true));
        Due.refused("seen of nothing", IndexOutOfBoundsException.class, NetworkTest::withEmpty, y -> y.seen(0, 0));
        Due.is("length of nothing", withEmpty().seen(0, -1), 0);
    }

    private static StreamPair withEmpty() {
        StreamPair x = new StreamPair();
        x.inject(1);
        return x;
    }

    private static void flipsOfShortSegments() {
        for (int n = 0; n <= 21; n++) {
            int size = n;
            StreamPair x = new StreamPair();
            Due.lay(x, Due.pattern(1, n));
            x.inject(0);
            Due.throwing("flip behind its end", IndexOutOfBoundsException.class, x, () -> x.flip(0, size, 1, true));
            if (n == 0) {
                continue;
            }
            int before = n < 18 ? -1 : Due.number(x, 0, 16, 2);
            Due.is("flip", x.flip(0, 0, 1, false), before);
            int after = x.flip(0, 0, 1, true);
            Due.is("flip with mending", after, n < 18 ? -1 : Due.number(x, 0, 16, 2));
            Due.is("the byte", x.seen(0, 0), Due.patternAt(1));
            if (n >= 18) {
                Due.is("sum", Due.sum(Due.bytes(x, 0)), 0xFFFF);
            } else {
                Due.same("the bytes", Due.hex(Due.bytes(x, 0)), Due.hex(Due.pattern(1, n)));
            }
        }
    }

    private static void mendsOddLengths() {
        StreamPair x = Due.joined(0, 0);
        Due.lay(x, new byte[] {1, 2, (byte) 0xF0});
        x.write(0);
        x.flip(0, 22, 0x0F, true);
        Due.is("sum with a 0 behind", Due.sum(Due.bytes(x, 0)), 0xFFFF);
        x.deliver(0);
        Due.is("read", x.read(1, 7), 3L << 56 | 0x0102FF);
    }

    private static StreamPair withTape(int n) {
        StreamPair x = Due.joined(1000, 5000);
        Due.lay(x, Due.pattern(3, n));
        return x;
    }

    private static void injectsRefused() {
        int[] lengths = {0, 20, 1484, 1485};
        for (int n : lengths) {
            for (int e : Due.NO_ENDS) {
                Due.refused("inject to no end", NoSuchElementException.class, () -> withTape(n), x -> x.inject(e));
            }
        }
        int[] tooLong = {1485, 1486, 1504, 3000};
        for (int n : tooLong) {
            for (int end = 0; end < 2; end++) {
                int e = end;
                Due.refused("inject of too many", IllegalArgumentException.class, () -> withTape(n),
                        x -> x.inject(e));
            }
        }
    }

    private static void injectsTheLongest() {
        byte[] longest = Due.pattern(3, 1484);
        for (int from = 0; from < 1484; from += 371) {
            StreamPair x = withTape(1484);
            Due.is("inject of 1484 bytes", x.inject(0), 1);
            Due.is("the tape is taken", x.count(3), 0);
            Due.is("its length", x.seen(0, -1), 1484);
            Due.is("it goes to", x.seen(0, -2), 0);
            byte[] part = java.util.Arrays.copyOfRange(longest, from, from + 371);
            Due.same("its bytes", Due.hex(Due.bytes(x, 0, from, 371)), Due.hex(part));
        }
    }

    private static void injects() {
        StreamPair x = withThree();
        Due.is("inject of nothing", x.inject(1), 4);
        Due.is("its length", x.seen(3, -1), 0);
        Due.is("it goes to", x.seen(3, -2), 1);
        Due.is("deliver of nothing", x.deliver(3), 3);
        Due.is("dropped in step 1", x.about(1, 16), 1);
        Due.is("injected is not sent", x.about(1, 10), 1);
        Due.is("injected is not sent", x.about(0, 10), 5);
        Due.comes(x, 1, Due.ACK, 1001, 5001, 65535, 5);
        Due.is("an invented segment counts as any other", x.about(1, 2), 5);
        x.feed(1, 2, 3, 4, 5);
        x.end(1);
        Due.is("inject of a byte", x.inject(0), 5);
        Due.is("it is the newest", x.seen(4, -1), 1);
        Due.is("the others stay", x.seen(0, -1), 21);
    }

    /** A segment of 1484 bytes is as good as others. */
    private static void longestComes() {
        StreamPair x = Due.joined(1000, 5000);
        Due.comes(x, 1, Due.ACK, 1001, 5001, 65535, 1464);
        Due.is("unread", x.about(1, 2), 1464);
        Due.is("not dropped in step 1", x.about(1, 16), 0);
        Due.is("read", x.read(1, 2), 2L << 56 | Due.patternAt(0) << 8 | Due.patternAt(1));
    }

    private static void sees() {
        StreamPair x = Due.joined(0x01020304, 0x05060708);
        Due.write(x, 0, 2);
        Due.is("length", x.seen(0, -1), 22);
        Due.is("goes to", x.seen(0, -2), 1);
        Due.is("first", x.seen(0, 0), 0x9C);
        Due.is("SEQ", x.seen(0, 7), 0x05);
        Due.is("window, above 127", x.seen(0, 14), 255);
        Due.is("last", x.seen(0, 21), Due.patternAt(1));
        String before = Due.everything(x);
        Due.same("seeing changes nothing", Due.everything(x), before);
        int[] noPlaces = {-3, 23, Integer.MAX_VALUE, Integer.MIN_VALUE};
        for (int at : noPlaces) {
            Due.refused("seen at " + at, IndexOutOfBoundsException.class, NetworkTest::withThree, y -> y.seen(2, at));
        }
        Due.is("seen at 22", withThree().seen(2, 22), Due.patternAt(2));
    }

    private static StreamPair afterALongOne(int state) {
        StreamPair x = Due.inState(state);
        byte[] full = new byte[1484];
        java.util.Arrays.fill(full, (byte) 0xFF);
        Due.lay(x, full);
        x.inject(0);
        x.drop(0);
        return x;
    }

    /** Whatever was on its way before: nothing of it shows in a segment that is sent. */
    private static void nothingOldShows() {
        StreamPair c = afterALongOne(4);
        c.close(0);
        Due.segment("FIN", c, 0, 1, 20, Due.FIN | Due.ACK, 1001, 5001, 65535);
        StreamPair a = afterALongOne(4);
        a.abort(0);
        Due.segment("RST", a, 0, 1, 20, Due.RST | Due.ACK, 1001, 5001, 65535);
        StreamPair s = afterALongOne(2);
        s.tick(1000);
        Due.segment("SYN", s, 0, 1, 24, Due.SYN, 1000, 0, 65535);
        Due.is("its option", Due.number(s, 0, 20, 4), 0x020405B4);
        StreamPair x = afterALongOne(4);
        Due.write(x, 0, 3);
        Due.segment("data", x, 0, 1, 23, Due.ACK | Due.PSH, 1001, 5001, 65535);
        Due.throwing("seen behind its end", IndexOutOfBoundsException.class, x, () -> x.seen(0, 23));
        x.deliver(0);
        Due.is("read", x.read(1, 7) >>> 56, 3);
    }

    /** However segments went before, those on their way now have bytes of their own. */
    private static void nothingIsShared() {
        for (int way = 0; way < 3; way++) {
            StreamPair x = withThree();
            if (way == 0) {
                Due.deliverAll(x);
            } else if (way == 1) {
                Due.dropAll(x);
            }
            x.open(1000, 5000);
            for (int k = 1; k < 8; k++) {
                x.copy(0);
                x.flip(k, 8, k, false);
            }
            for (int k = 0; k < 8; k++) {
                Due.is("what segment " + k + " was altered by", x.seen(k, 8), k);
            }
        }
    }

    /** The sum before its carries are added, and the checksum that is due: adding them can make one more. */
    private static void mendsWithCarries() {
        int[][] cases = {{0x0FFFF, 0x0000}, {0x10000, 0xFFFE}, {0x1FFFD, 0x0001}, {0x1FFFE, 0x0000}, {0x1FFFF, 0xFFFE},
            {0x20000, 0xFFFD}, {0x2FFFC, 0x0001}, {0x2FFFD, 0x0000}, {0x2FFFE, 0xFFFE}, {0x2FFFF, 0xFFFD},
            {0x4FFFB, 0x0000}, {0x4FFFC, 0xFFFE}};
        for (int[] one : cases) {
            StreamPair x = new StreamPair();
            byte[] row = new byte[20];
            int left = one[0] - (0x0A00 + 1 + 0x0A00 + 2 + 6 + 20);
            for (int at = 0; at < 16; at += 2) {
                int word = Math.min(left, 0xFFFF);
                Due.put(row, at, 2, word);
                left -= word;
            }
            Due.lay(x, row);
            x.inject(1);
            String what = "checksum of " + Integer.toHexString(one[0]);
            Due.is(what, x.flip(0, 19, 0, true), one[1]);
            Due.is("sum", Due.sum(Due.bytes(x, 0)), 0xFFFF);
            Due.is(what + " mended again", x.flip(0, 19, 0, true), one[1]);
        }
    }
}
