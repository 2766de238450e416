import java.util.ArrayList;
import java.util.Arrays;

/** The program and Plain side by side: each call goes to both, and the first that they answer differently is told. */
final class Twins {
    private static final int CALLS_MOST = 512;

    final Plain plain = new Plain();
    private final StreamPair program = new StreamPair();
    private final ArrayList<String> calls = new ArrayList<>();
    private boolean differ;

    int callsLeft() {
        return differ ? 0 : CALLS_MOST - calls.size();
    }

    void call(String name, int... v) {
        if (callsLeft() == 0) {
            return;
        }
        String got = ofProgram(name, v);
        String due = ofPlain(name, v);
        calls.add(name + Arrays.toString(v) + " " + got);
        differ = !got.equals(due);
        Due.same(differ ? "the last of " + calls : name, got, due);
    }

    private String ofPlain(String name, int[] v) {
        try {
            return Long.toString(plain.call(name, v));
        } catch (RuntimeException e) {
            return e.getClass().getName();
        }
    }

    private String ofProgram(String name, int[] v) {
        try {
            return Long.toString(v.length < 3 ? shortCall(name, v[0], v.length == 2 ? v[1] : 0) : longCall(name, v));
        } catch (RuntimeException e) {
            return e.getClass().getName();
        }
    }

    private long longCall(String name, int[] v) {
        switch (name) {
            case "feed":
                return program.feed(v[0], v[1], v[2], v[3], v[4]);
            case "flip":
                return program.flip(v[0], v[1], v[2], v[3] == 1);
            default:
                return program.set(v[0], v[1], v[2]);
        }
    }

    private long shortCall(String name, int a, int b) {
        switch (name) {
            case "end":
                return program.end(a);
            case "open":
                return program.open(a, b);
            case "write":
                return program.write(a);
            case "read":
                return program.read(a, b);
            case "close":
                return program.close(a);
            case "abort":
                return program.abort(a);
            case "tick":
                return program.tick(a);
            case "deliver":
                return program.deliver(a);
            case "drop":
                return program.drop(a);
            case "copy":
                return program.copy(a);
            case "inject":
                return program.inject(a);
            case "seen":
                return program.seen(a, b);
            case "about":
                return program.about(a, b);
            default:
                return program.count(a);
        }
    }

    /** The TAPE holds these bytes alone. */
    void lay(int[] bytes) {
        call("end", 0);
        for (int from = 0; from < bytes.length; from += 20) {
            int[] five = new int[5];
            for (int i = 0; i < 20; i++) {
                five[i / 4] = five[i / 4] << 8 | (from + i < bytes.length ? bytes[from + i] : 0);
            }
            call("feed", five);
        }
        call("end", bytes.length);
    }

    void askFacts(int e) {
        for (int what = 0; what <= 16; what++) {
            call("about", e, what);
        }
    }

    void askCounts() {
        for (int what = 0; what <= 4; what++) {
            call("count", what);
        }
    }

    /** The first bytes of the newest segment. */
    void askNewest(int most) {
        int k = plain.onTheirWay.size() - 1;
        call("seen", k, -1);
        call("seen", k, -2);
        for (int at = 0; at < most; at++) {
            call("seen", k, at);
        }
    }
}
