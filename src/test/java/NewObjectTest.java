import java.util.NoSuchElementException;

/** Promise 1. */
public final class NewObjectTest {
    public static void main(String[] args) {
        StreamPair x = new StreamPair();
        String atFirst = "0 0 0 0 0 65535 1000 0 0 0 0 -1 0 -1 0 0 0";
        Due.same("END 0", Due.facts(x, 0), atFirst);
        Due.same("END 1", Due.facts(x, 1), atFirst);
        for (int what = 0; what < 5; what++) {
            Due.is("count(" + what + ")", x.count(what), 0);
        }
        for (int end = 0; end < 2; end++) {
            int e = end;
            Due.throwing("write", IllegalStateException.class, x, () -> x.write(e));
            Due.throwing("close", IllegalStateException.class, x, () -> x.close(e));
            Due.is("abort", x.abort(e), 0);
            Due.is("read", x.read(e, 7), 0);
        }
        Due.throwing("deliver", NoSuchElementException.class, x, () -> x.deliver(0));
        Due.same("END 0 after calls that do nothing", Due.facts(x, 0), atFirst);
        Due.is("tick", x.tick(1), 1);
        segmentsWithoutConnection();
        Due.finish();
    }

    private static void segmentsWithoutConnection() {
        StreamPair x = new StreamPair();
        for (int e = 0; e < 2; e++) {
            Due.comes(x, e, Due.SYN, 5, 0, 100, 0);
            Due.is("dropped in step 1 without a connection", x.about(e, 16), 1);
            Due.is("state", x.about(e, 0), 0);
            Due.is("sent", x.about(e, 10), 0);
        }
        byte[] noPorts = Due.forged(0, Due.SYN, 5, 0, 100, new byte[0], new byte[0]);
        Due.put(noPorts, 0, 4, 0);
        Due.mend(noPorts);
        Due.comes(x, 0, noPorts);
        Due.is("dropped without ports", x.about(0, 16), 2);
        Due.is("no answer", x.count(1), 0);
    }
}
