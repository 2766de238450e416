import java.io.ByteArrayOutputStream;

/** What the tests share: comparing answers, and making segments and connections. */
final class Due {
    static final int FIN = 1;
    static final int SYN = 2;
    static final int RST = 4;
    static final int PSH = 8;
    static final int ACK = 16;

    static final int[] NO_ENDS = {-1, 2, Integer.MAX_VALUE, Integer.MIN_VALUE};

    private static final int CALLS_OF_ABOUT = 17;
    /* Of a longer segment only so many bytes are looked at: an object is good for 512 calls. */
    private static final int BYTES_LOOKED_AT = 24;
    private static int wrong;
    private static int checked;

    private Due() {
    }

    interface Call {
        void run();
    }

    interface Make {
        StreamPair pair();
    }

    interface Use {
        void of(StreamPair x);
    }

    static void is(String what, long got, long want) {
        checked++;
        if (got != want) {
            wrong++;
            System.out.println(what + " answered " + got + ", due is " + want);
        }
    }

    static void same(String what, String got, String want) {
        checked++;
        if (!got.equals(want)) {
            wrong++;
            System.out.println(what + " is\n  " + got + "\ndue is\n  " + want);
        }
    }

    /** The call throws just this exception, and the object is as it was before. */
    static void throwing(String what, Class<? extends RuntimeException> kind, StreamPair x, Call call) {
        String before = everything(x);
        String got = "nothing";
        try {
            call.run();
        } catch (RuntimeException e) {
            got = e.getClass().getName();
        }
        same("what " + what + " throws", got, kind.getName());
        same("what there is after " + what + " threw", everything(x), before);
    }

    /** The same on an object made for this call alone. */
    static void refused(String what, Class<? extends RuntimeException> kind, Make make, Use call) {
        StreamPair x = make.pair();
        throwing(what, kind, x, () -> call.of(x));
    }

    static void finish() {
        System.out.println(wrong == 0 ? checked + " answers are as due" : wrong + " answers are not as due");
        if (wrong != 0) {
            System.exit(1);
        }
    }

    /** All that can be asked without changing anything. */
    static String everything(StreamPair x) {
        StringBuilder text = new StringBuilder();
        for (int e = 0; e < 2; e++) {
            text.append(facts(x, e)).append('|');
        }
        for (int what = 0; what < 5; what++) {
            text.append(x.count(what)).append(' ');
        }
        for (int k = 0; k < x.count(1); k++) {
            int length = x.seen(k, -1);
            text.append('|').append(x.seen(k, -2)).append(':').append(length).append(':');
            text.append(hex(bytes(x, k, 0, Math.min(length, BYTES_LOOKED_AT))));
        }
        return text.toString();
    }

    static String facts(StreamPair x, int e) {
        StringBuilder text = new StringBuilder();
        for (int what = 0; what < CALLS_OF_ABOUT; what++) {
            text.append(what == 0 ? "" : " ").append(x.about(e, what));
        }
        return text.toString();
    }

    static byte[] bytes(StreamPair x, int k) {
        return bytes(x, k, 0, x.seen(k, -1));
    }

    static byte[] bytes(StreamPair x, int k, int from, int n) {
        byte[] row = new byte[n];
        for (int i = 0; i < n; i++) {
            row[i] = (byte) x.seen(k, from + i);
        }
        return row;
    }

    static String hex(byte[] row) {
        StringBuilder text = new StringBuilder();
        for (byte value : row) {
            text.append(Character.forDigit(value >> 4 & 15, 16)).append(Character.forDigit(value & 15, 16));
        }
        return text.toString();
    }

    static int number(StreamPair x, int k, int at, int size) {
        int value = 0;
        for (int i = 0; i < size; i++) {
            value = value << 8 | x.seen(k, at + i);
        }
        return value;
    }

    static int seq(StreamPair x, int k) {
        return number(x, k, 4, 4);
    }

    static int ack(StreamPair x, int k) {
        return number(x, k, 8, 4);
    }

    static int flags(StreamPair x, int k) {
        return x.seen(k, 13);
    }

    static int window(StreamPair x, int k) {
        return number(x, k, 14, 2);
    }

    /** Segment k: where it goes, its length, flags, numbers and window. */
    static void segment(String what, StreamPair x, int k, int to, int length, int flags, int seq, int ack, int window) {
        is(what + ": on its way", x.count(1) > k ? 1 : 0, 1);
        if (x.count(1) <= k) {
            return;
        }
        is(what + ": goes to", x.seen(k, -2), to);
        is(what + ": length", x.seen(k, -1), length);
        is(what + ": flags", flags(x, k), flags);
        is(what + ": SEQ", seq(x, k), seq);
        is(what + ": ACK number", ack(x, k), ack);
        is(what + ": window", window(x, k), window);
        is(what + ": port of END 1", number(x, k, to == 1 ? 2 : 0, 2), 443);
        is(what + ": port of END 0", number(x, k, to == 1 ? 0 : 2, 2), 39999 + x.count(2));
        is(what + ": data offset", x.seen(k, 12), (flags & SYN) != 0 ? 0x60 : 0x50);
        is(what + ": urgent pointer", number(x, k, 18, 2), 0);
        if (length <= 2 * BYTES_LOOKED_AT) {
            is(what + ": sum", sum(bytes(x, k)), 0xFFFF);
        } else {
            int checksum = number(x, k, 16, 2);
            is(what + ": checksum when mended", x.flip(k, 0, 0, true), checksum);
        }
    }

    /** The sum over the pseudo header and the segment, word by word as RFC 9293 tells it. */
    static int sum(byte[] row) {
        ByteArrayOutputStream all = new ByteArrayOutputStream();
        all.writeBytes(new byte[] {10, 0, 0, 1, 10, 0, 0, 2, 0, 6});
        all.write(row.length >> 8);
        all.write(row.length);
        all.writeBytes(row);
        all.write(0);
        byte[] words = all.toByteArray();
        int sum = 0;
        for (int at = 0; at + 1 < words.length; at += 2) {
            sum += (words[at] & 255) << 8 | words[at + 1] & 255;
            if (sum > 0xFFFF) {
                sum -= 0xFFFF;
            }
        }
        return sum;
    }

    static void mend(byte[] row) {
        row[16] = 0;
        row[17] = 0;
        int right = 0xFFFF - sum(row);
        row[16] = (byte) (right >> 8);
        row[17] = (byte) right;
    }

    /** A segment to an end of connection 0, with a right checksum. */
    static byte[] forged(int to, int flags, int seq, int ack, int window, byte[] options, byte[] data) {
        byte[] row = new byte[20 + options.length + data.length];
        int opener = 40000;
        put(row, 0, 2, to == 1 ? opener : 443);
        put(row, 2, 2, to == 1 ? 443 : opener);
        put(row, 4, 4, seq);
        put(row, 8, 4, ack);
        row[12] = (byte) ((5 + options.length / 4) << 4);
        row[13] = (byte) flags;
        put(row, 14, 2, window);
        System.arraycopy(options, 0, row, 20, options.length);
        System.arraycopy(data, 0, row, 20 + options.length, data.length);
        mend(row);
        return row;
    }

    static void put(byte[] row, int at, int size, int value) {
        for (int i = 0; i < size; i++) {
            row[at + i] = (byte) (value >>> 8 * (size - 1 - i));
        }
    }

    /** Puts the bytes alone on the tape. */
    static void lay(StreamPair x, byte[] row) {
        x.end(0);
        byte[] whole = new byte[Math.max(20, row.length)];
        System.arraycopy(row, 0, whole, 0, row.length);
        int at = 0;
        for (; at + 20 <= whole.length; at += 20) {
            feed20(x, whole, at);
        }
        if (at < row.length) {
            x.end(row.length - 20);
            feed20(x, whole, row.length - 20);
        }
        x.end(row.length);
    }

    private static void feed20(StreamPair x, byte[] row, int at) {
        int[] five = new int[5];
        for (int i = 0; i < 20; i++) {
            five[i / 4] = five[i / 4] << 8 | row[at + i] & 255;
        }
        x.feed(five[0], five[1], five[2], five[3], five[4]);
    }

    /** The bytes come to the end at once, past all that is on its way. */
    static void comes(StreamPair x, int to, byte[] row) {
        lay(x, row);
        int before = x.count(1);
        x.inject(to);
        is("deliver of what was injected leaves the others at least", x.deliver(before) >= before ? 1 : 0, 1);
    }

    static void comes(StreamPair x, int to, int flags, int seq, int ack, int window, int dataLength) {
        comes(x, to, forged(to, flags, seq, ack, window, new byte[0], pattern(0, dataLength)));
    }

    /** Bytes that tell their place. */
    static byte[] pattern(int from, int n) {
        byte[] row = new byte[n];
        for (int i = 0; i < n; i++) {
            row[i] = (byte) patternAt(from + i);
        }
        return row;
    }

    static int patternAt(int place) {
        return place * 7 + (place >> 8) & 255;
    }

    static int write(StreamPair x, int e, int n) {
        lay(x, pattern(0, n));
        return x.write(e);
    }

    static void deliverAll(StreamPair x) {
        for (int i = 0; i < 10000 && x.count(1) > 0; i++) {
            x.deliver(0);
        }
        is("on their way after all were delivered", x.count(1), 0);
    }

    static void dropAll(StreamPair x) {
        while (x.count(1) > 0) {
            x.drop(0);
        }
    }

    /** A pair whose two ends are ESTABLISHED, with nothing on its way. */
    static StreamPair joined(int first, int second) {
        StreamPair x = new StreamPair();
        join(x, first, second);
        return x;
    }

    static void join(StreamPair x, int first, int second) {
        x.open(first, second);
        x.deliver(0);
        x.deliver(0);
        x.deliver(0);
        is("state of END 0 when joined", x.about(0, 0), 4);
        is("state of END 1 when joined", x.about(1, 0), 4);
    }

    /** Which end inState brings into that state: only END 1 can be in LISTEN and SYN_RCVD. */
    static int endIn(int state) {
        return state == 1 || state == 3 ? 1 : 0;
    }

    /** A pair with ISS 1000 and 5000 whose end endIn(state) is in that state, with nothing on its way. */
    static StreamPair inState(int state) {
        StreamPair x = state <= 3 ? new StreamPair() : joined(1000, 5000);
        if (state <= 3) {
            x.open(1000, 5000);
        }
        if (state == 0) {
            x.close(0);
        } else if (state == 3) {
            x.deliver(0);
        } else if (state == 5 || state == 6 || state == 8 || state == 10) {
            x.close(0);
        } else if (state == 7 || state == 9) {
            x.close(1);
            x.deliver(0);
        }
        if (state == 6 || state == 10) {
            deliverAll(x);
        }
        if (state == 8 || state == 10) {
            x.close(1);
            x.deliver(x.count(1) - 1);
        }
        if (state == 9) {
            x.close(0);
        }
        dropAll(x);
        is("state", x.about(endIn(state), 0), state);
        return x;
    }
}
