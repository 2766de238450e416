import java.util.Arrays;

/** The program answers as Plain does: to every kind of segment in every state, and in long runs of all calls. */
public final class PlainTest {
    private static final int RUNS = 3000;
    /* For the questions at the end of a run. */
    private static final int CALLS_KEPT = 100;

    private final Twins twins = new Twins();
    private long chance;

    private PlainTest(long seed) {
        chance = seed;
    }

    public static void main(String[] args) {
        for (int state = 0; state <= 10; state++) {
            segmentsIn(state, false);
            if (state == 4 || state == 5 || state >= 7 && state <= 9) {
                segmentsIn(state, true);
            }
        }
        for (int run = 0; run < RUNS; run++) {
            new PlainTest(run).run();
        }
        Due.finish();
    }

    /** All flags, at the edges of what fits and of what can be acknowledged. */
    private static void segmentsIn(int state, boolean withBytesSent) {
        for (int flags = 0; flags < 32; flags++) {
            for (int place = 0; place < 50; place++) {
                segmentIn(state, withBytesSent, flags, place % 5, place / 5 % 5, place / 25 * 3);
            }
        }
    }

    private static void segmentIn(int state, boolean withBytesSent, int flags, int seqKind, int ackKind, int n) {
        Twins twins = new Twins();
        int e = Due.endIn(state);
        twins.call("set", e, 0, 10);
        bringTo(twins, state, withBytesSent);
        PlainEnd end = twins.plain.ends[e];
        Due.is("state", end.state, state);
        int seq = new int[] {end.rcv - 1, end.rcv, end.rcv + 1, end.edge - 1, end.edge}[seqKind];
        int ack = new int[] {end.una - 1, end.una, end.una + 1, end.max, end.max + 1}[ackKind];
        int window = flags % 3 == 0 ? 7 : end.far;
        twins.lay(segment(twins.plain, e, flags, seq, ack, window, new int[0], new int[n]).bytes);
        twins.call("inject", e);
        twins.call("deliver", twins.plain.onTheirWay.size() - 1);
        twins.askFacts(e);
        twins.askNewest(20);
    }

    private static void bringTo(Twins twins, int state, boolean withBytesSent) {
        twins.call("open", 1000, 5000);
        int handed = state == 3 ? 1 : state >= 4 ? 3 : 0;
        for (int i = 0; i < handed; i++) {
            twins.call("deliver", 0);
        }
        if (withBytesSent) {
            twins.lay(new int[] {1, 2, 3, 4, 5});
            twins.call("write", 0);
            twins.call("drop", 0);
        }
        if (state == 0 || state == 5 || state == 6 || state == 8 || state == 10) {
            twins.call("close", 0);
        }
        if (state == 6 || state == 10) {
            twins.call("deliver", 0);
            twins.call("deliver", 0);
        }
        if (state >= 7) {
            twins.call("close", 1);
            twins.call("deliver", twins.plain.onTheirWay.size() - 1);
        }
        if (state == 9) {
            twins.call("close", 0);
        }
    }

    private static PlainSegment segment(Plain plain, int to, int flags, int seq, int ack, int window, int[] options,
            int[] data) {
        int opener = 40000 + Math.max(0, plain.connections - 1);
        PlainSegment s = new PlainSegment(to, new int[20 + options.length + data.length]);
        s.put(0, 2, to == 1 ? opener : 443);
        s.put(2, 2, to == 1 ? 443 : opener);
        s.put(4, 4, seq);
        s.put(8, 4, ack);
        s.put(12, 1, (5 + options.length / 4) * 16);
        s.put(13, 1, flags);
        s.put(14, 2, window);
        System.arraycopy(options, 0, s.bytes, 20, options.length);
        System.arraycopy(data, 0, s.bytes, 20 + options.length, data.length);
        s.mend();
        return s;
    }

    private int below(int n) {
        chance = chance * 6364136223846793005L + 1442695040888963407L;
        return (int) ((chance >>> 33) % n);
    }

    private int oneOf(int... values) {
        return values[below(values.length)];
    }

    private int anyNumber() {
        return below(1 << 16) << 16 | below(1 << 16);
    }

    /** Numbers that wrap soon, or not. */
    private int anyIss() {
        int near = oneOf(0, 0, Integer.MIN_VALUE, anyNumber());
        return near - oneOf(0, 1, 2, 65, 700, below(3000));
    }

    private int anyEnd() {
        return below(50) == 0 ? oneOf(-1, 2) : below(2);
    }

    private int anySegment() {
        int n = twins.plain.onTheirWay.size();
        if (n == 0 || below(30) == 0) {
            return oneOf(-1, n);
        }
        return below(3) > 0 ? 0 : below(n);
    }

    private void run() {
        for (int e = 0; e < 2; e++) {
            twins.call("set", e, 0, oneOf(65535, 65535, 65535, 1000, 200, 64, 10, 1, 0));
            twins.call("set", e, 1, oneOf(1460, 1460, 500, 100, 65, 64));
        }
        if (below(20) > 0) {
            open();
        }
        while (twins.callsLeft() > CALLS_KEPT) {
            step();
            twins.call("about", below(2), below(17));
        }
        twins.askFacts(0);
        twins.askFacts(1);
        twins.askCounts();
        twins.askNewest(40);
    }

    private void open() {
        twins.call("open", anyIss(), anyIss());
        int handed = below(5) == 0 ? below(3) : 3;
        for (int i = 0; i < handed; i++) {
            twins.call("deliver", 0);
        }
    }

    private void step() {
        int which = below(100);
        if (which < 40) {
            twins.call(oneOf(0, 0, 0, 0, 0, 1, 2) == 0 ? "deliver" : below(2) == 0 ? "drop" : "copy", anySegment());
        } else if (which < 50) {
            write();
        } else if (which < 60) {
            twins.call("read", anyEnd(), below(30) == 0 ? oneOf(0, 8) : 1 + below(7));
        } else if (which < 65) {
            flip();
        } else if (which < 72) {
            twins.call("tick", oneOf(1, 100, 199, 200, 201, 999, 1000, 4000, 1 + below(5000), below(60000)));
        } else if (which < 82) {
            seldom();
        } else {
            forge();
        }
    }

    private void seldom() {
        switch (below(10)) {
            case 0:
                open();
                break;
            case 1:
                twins.call("abort", anyEnd());
                break;
            case 2:
            case 3:
            case 4:
                twins.call("close", anyEnd());
                break;
            case 5:
                twins.call("set", anyEnd(), oneOf(1, 1, 1, 2), oneOf(63, 64, 100, 700, 1460, 1461));
                break;
            case 6:
            case 7:
                twins.call("set", anyEnd(), 0, oneOf(-1, 0, 10, 100, 300, 2000, 65535, 65536));
                break;
            case 8:
                twins.call("end", below(40) - 1);
                twins.call("inject", anyEnd());
                break;
            default:
                twins.call("seen", anySegment(), below(30) - 3);
                twins.call("count", below(7) - 1);
                break;
        }
    }

    private void write() {
        int feeds = oneOf(0, 1, 1, 2, 3, 5, 15);
        for (int i = 0; i < feeds; i++) {
            twins.call("feed", anyNumber(), anyNumber(), anyNumber(), anyNumber(), anyNumber());
        }
        if (below(2) == 0) {
            twins.call("end", Math.max(0, twins.plain.tape.size() - below(20)));
        }
        twins.call("write", anyEnd());
    }

    private void flip() {
        int at = oneOf(7, 11, 12, 13, 13, 13, 15, 17, 20, below(70) - 2);
        int with = at == 13 ? oneOf(Due.FIN, Due.FIN, Due.SYN, Due.RST, Due.ACK) : oneOf(1, 2, 3, 16, anyNumber());
        twins.call("flip", anySegment(), at, with, below(6) > 0 ? 1 : 0);
    }

    /** A segment that nobody sent, near what fits and what can be acknowledged, comes once or several times. */
    private void forge() {
        int e = below(2);
        PlainEnd end = twins.plain.ends[e];
        int n = oneOf(0, 0, 1, 3, 10, 20, below(120));
        int flags = oneOf(16, 16, 16, 16, 16, 24, 17, 17, 2, 18, 4, 20, below(64));
        int seq = oneOf(end.rcv, end.rcv, end.rcv, end.edge, end.wl1)
                + oneOf(0, 0, 0, 1, -1, -n, 1 - n, below(60) - 20);
        int ack = oneOf(end.una, end.una, end.nxt, end.max, end.max, end.fin(), end.iss + 1, end.una + below(50))
                + oneOf(0, 0, 0, 0, 1, -1);
        int window = oneOf(end.far, end.far, end.far, 0, 1, below(300), 65535);
        int[] options = anyOptions();
        int[] data = new int[n];
        for (int i = 0; i < n; i++) {
            data[i] = below(256);
        }
        PlainSegment s = segment(twins.plain, e, flags, seq, ack, window, options, data);
        int bytes = below(40) == 0 ? below(s.bytes.length) : s.bytes.length;
        twins.lay(Arrays.copyOf(s.bytes, bytes));
        twins.call("inject", e);
        int times = oneOf(1, 1, 1, 1, 3, 4);
        for (int i = 1; i < times; i++) {
            twins.call("copy", twins.plain.onTheirWay.size() - 1);
        }
        for (int i = 0; i < times; i++) {
            twins.call("deliver", twins.plain.onTheirWay.size() - 1);
        }
    }

    private int[] anyOptions() {
        int[] row = new int[oneOf(0, 0, 0, 0, 0, 4, 8, 12)];
        for (int at = 0; at < row.length; at += 4) {
            row[at] = oneOf(2, 2, 1, 0, 3, below(256));
            row[at + 1] = oneOf(4, 4, 2, 3, 1, 8, below(256));
            row[at + 2] = below(3);
            row[at + 3] = below(256);
        }
        return row;
    }
}
