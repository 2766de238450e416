/**
 * What throws changes nothing, also nothing that shows only later: of two objects with the same calls one is
 * asked for all that is refused, too, and both go on alike.
 */
public final class RefusedTest {
    private static final int STEPS = 40;

    public static void main(String[] args) {
        for (int plan = 0; plan < 10; plan++) {
            String due = told(plan, -1);
            for (int at = 0; at <= STEPS; at++) {
                Due.same("plan " + plan + " with refused calls at step " + at, told(plan, at), due);
            }
        }
        Due.finish();
    }

    private static String told(int plan, int refusedAt) {
        StreamPair x = new StreamPair();
        x.set(0, 1, 64 + 10 * plan);
        x.set(1, 0, 150 + 50 * plan);
        x.feed(plan, 2, 3, 4, 5);
        long chance = 5 + plan;
        for (int i = 0; i <= STEPS; i++) {
            if (i == refusedAt) {
                askForAllThatIsRefused(x);
            }
            chance = chance * 6364136223846793005L + 1442695040888963407L;
            step(x, i, (int) (chance >>> 40));
        }
        return reveal(x);
    }

    private static void step(StreamPair x, int i, int chance) {
        int n = x.count(1);
        int e = chance >> 8 & 1;
        if (i == 1) {
            x.open(-20, 70);
        } else if (i > 30 && x.about(e, 0) == 4) {
            x.close(e);
        } else if (i % 5 == 0 && (x.about(e, 0) == 4 || x.about(e, 0) == 7)) {
            x.feed(chance, i, 3, 4, 5);
            x.write(e);
            x.feed(chance, i, 3, 4, 5);
        } else if (i % 9 == 8 || n == 0) {
            x.tick(100 + (chance & 255));
        } else if (i % 13 == 12) {
            x.copy(chance % n);
        } else {
            x.deliver(chance % n);
        }
    }

    private static void askForAllThatIsRefused(StreamPair x) {
        int n = x.count(1);
        int tape = x.count(3);
        Due.Use[] always = {y -> y.end(-1), y -> y.end(tape + 1), y -> y.set(2, 0, 5), y -> y.set(0, 0, 65536),
            y -> y.set(1, 0, -1), y -> y.set(0, 1, 63), y -> y.set(1, 1, 1461), y -> y.set(1, 2, 100),
            y -> y.write(2), y -> y.write(-1), y -> y.read(-1, 1), y -> y.read(0, 0), y -> y.read(1, 8),
            y -> y.close(2), y -> y.abort(-1), y -> y.tick(0), y -> y.tick(1000001), y -> y.deliver(-1),
            y -> y.deliver(n), y -> y.drop(-1), y -> y.drop(n), y -> y.copy(-1), y -> y.copy(n),
            y -> y.flip(n, 0, 1, true), y -> y.inject(2), y -> y.inject(-1), y -> y.seen(n, 0), y -> y.about(2, 0),
            y -> y.about(0, 17), y -> y.about(1, -1)};
        for (Due.Use call : always) {
            refused(x, call);
        }
        if (n > 0) {
            int length = x.seen(0, -1);
            refused(x, y -> y.flip(0, length, 1, true));
            refused(x, y -> y.flip(0, -1, 1, true));
            refused(x, y -> y.seen(0, length));
            refused(x, y -> y.seen(0, -3));
        }
        for (int end = 0; end < 2; end++) {
            int e = end;
            int state = x.about(e, 0);
            if (state != 4 && state != 7) {
                refused(x, y -> y.write(e));
            }
            if (state == 0 || state == 3 || state == 5 || state == 6 || state >= 8) {
                refused(x, y -> y.close(e));
            }
        }
    }

    private static void refused(StreamPair x, Due.Use call) {
        int threw = 0;
        try {
            call.of(x);
        } catch (RuntimeException e) {
            threw = 1;
        }
        Due.is("a wrong call throws", threw, 1);
    }

    /** All that can be asked, and what shows only when something is done. */
    private static String reveal(StreamPair x) {
        StringBuilder text = new StringBuilder(Due.facts(x, 0)).append('|').append(Due.facts(x, 1));
        for (int what = 0; what < 5; what++) {
            text.append(' ').append(x.count(what));
        }
        for (int e = 0; e < 2; e++) {
            text.append('|').append(x.set(e, 0, 900)).append(' ').append(x.set(e, 1, 90));
            for (int i = 0; i < 5 && x.about(e, 2) > 0; i++) {
                text.append(' ').append(x.read(e, 7));
            }
        }
        x.tick(1000);
        x.inject(1);
        int n = x.count(1);
        for (int k = Math.max(0, n - 4); k < n; k++) {
            int length = Math.min(x.seen(k, -1), 44);
            text.append('|').append(x.seen(k, -2)).append(':').append(Due.hex(Due.bytes(x, k, 0, length)));
        }
        return text.toString();
    }
}
