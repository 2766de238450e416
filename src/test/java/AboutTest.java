import java.util.NoSuchElementException;

/** Promise 17. */
public final class AboutTest {
    public static void main(String[] args) {
        wrongInputs();
        allFacts();
        meaninglessAtFirst();
        dropsInStepOne();
        Due.finish();
    }

    private static void wrongInputs() {
        StreamPair x = Due.joined(1, 2);
        int[] noEnds = {-1, 2, Integer.MAX_VALUE, Integer.MIN_VALUE};
        for (int e : noEnds) {
            Due.throwing("about no end", NoSuchElementException.class, x, () -> x.about(e, 0));
            Due.throwing("about nothing right", NoSuchElementException.class, x, () -> x.about(e, 17));
        }
        int[] wrong = {-1, 17, Integer.MAX_VALUE, Integer.MIN_VALUE};
        for (int what : wrong) {
            Due.throwing("about", IllegalArgumentException.class, x, () -> x.about(0, what));
            Due.throwing("about", IllegalArgumentException.class, x, () -> x.about(1, what));
        }
    }

    /** Each of the 17 has a value of its own here. */
    private static void allFacts() {
        StreamPair x = Due.joined(0, 0);
        x.tick(7);
        Due.write(x, 1, 50);
        x.tick(20);
        x.deliver(0);
        x.deliver(0);
        Due.comes(x, 0, Due.ACK, 61, 1, 40000, 13);
        Due.comes(x, 0, new byte[5]);
        Due.comes(x, 0, new byte[6]);
        Due.dropAll(x);
        Due.same("END 0", Due.facts(x, 0), "4 0 50 0 5840 65535 200 0 40000 65485 4 -1 0 0 0 13 2");
        Due.write(x, 0, 2000);
        x.tick(80);
        Due.comes(x, 0, Due.ACK, 61, 1, 40000, 0);
        Due.same("END 0", Due.facts(x, 0), "4 0 50 2000 5840 65535 200 0 40000 65485 6 120 1 0 2000 13 2");
        x.tick(120);
        Due.comes(x, 0, Due.ACK, 61, 1, 40000, 0);
        Due.same("END 0", Due.facts(x, 0), "4 0 50 2000 1460 2920 400 1 40000 65485 7 400 1 0 1460 13 2");
        Due.same("END 1", Due.facts(x, 1), "4 0 0 0 5891 65535 200 0 65485 65535 2 -1 0 2 0 0 0");
    }

    private static void meaninglessAtFirst() {
        StreamPair x = new StreamPair();
        x.open(1, 2);
        for (int e = 0; e < 2; e++) {
            Due.is("CWND before a SYN came", x.about(e, 4), 0);
            Due.is("FAR before a SYN came", x.about(e, 8), 0);
            Due.is("SRTT before the first R", x.about(e, 13), -1);
        }
        x.deliver(0);
        x.deliver(0);
        x.abort(0);
        Due.is("CWND stays", x.about(0, 4), 5840);
        Due.is("FAR stays", x.about(0, 8), 65535);
    }

    private static void dropsInStepOne() {
        StreamPair x = Due.joined(1, 2);
        Due.write(x, 0, 9);
        x.flip(0, 25, 1, false);
        x.deliver(0);
        Due.is("dropped", x.about(1, 16), 1);
        Due.is("not by END 0", x.about(0, 16), 0);
        Due.comes(x, 1, Due.ACK, 90000, 3, 10, 5);
        Due.is("what does not fit is no such drop", x.about(1, 16), 1);
    }
}
