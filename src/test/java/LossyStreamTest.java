/**
 * Whatever the network does, short of mending what it altered, one end reads what the other wrote. One way
 * at a time: when both ends resend at once, what the document tells can let them refuse each other's ACKs.
 */
public final class LossyStreamTest {
    private static final int BYTES = 5000;

    private final StreamPair x = new StreamPair();
    private final int writer;
    private final int reader;
    private int written;
    private int read;
    private long chance;

    private LossyStreamTest(int seed) {
        chance = seed;
        writer = seed % 2;
        reader = 1 - writer;
    }

    public static void main(String[] args) {
        for (int seed = 1; seed <= 300; seed++) {
            new LossyStreamTest(seed).run(seed);
        }
        Due.finish();
    }

    private int below(int n) {
        chance = chance * 6364136223846793005L + 1442695040888963407L;
        return (int) ((chance >>> 33) % n);
    }

    private void run(int seed) {
        x.set(0, 1, 64 + below(1397));
        x.set(1, 1, 64 + below(1397));
        x.set(below(2), 0, 300 + below(3000));
        x.open((int) chance, -2 + below(4));
        for (int i = 0; i < 200000 && !isDone(); i++) {
            step();
        }
        Due.is("seed " + seed + ": bytes read", read, BYTES);
        Due.is("seed " + seed + ": the writer is at its end", x.about(writer, 0) % 10, 0);
        Due.is("seed " + seed + ": the writer was not broken off", x.about(writer, 1), 0);
        Due.throwing("read behind the end", IllegalStateException.class, x, () -> x.read(reader, 1));
    }

    private boolean isDone() {
        return read == BYTES && x.about(0, 0) % 10 == 0 && x.about(1, 0) % 10 == 0;
    }

    private void step() {
        writeSome();
        readSome();
        int n = x.count(1);
        if (n == 0) {
            x.tick(1 + below(200));
            return;
        }
        int k = below(4) == 0 ? below(n) : 0;
        int what = below(20);
        if (what == 0) {
            x.drop(k);
        } else if (what == 1 && n < 40) {
            x.copy(k);
        } else if (what == 2) {
            x.flip(k, below(x.seen(k, -1)), 1 << below(8), false);
            /* At once, since a second bit altered can make the checksum right again. */
            x.deliver(k);
        } else {
            x.deliver(k);
        }
    }

    private void writeSome() {
        if (x.about(writer, 0) != 4 || below(5) != 0) {
            return;
        }
        if (written == BYTES) {
            x.close(writer);
            return;
        }
        int n = Math.min(below(900), BYTES - written);
        Due.lay(x, Due.pattern(written, n));
        x.write(writer);
        written += n;
    }

    private void readSome() {
        if (below(3) != 0) {
            return;
        }
        if (read < BYTES) {
            long answer = x.read(reader, 7);
            for (int i = (int) (answer >>> 56) - 1; i >= 0; i--) {
                Due.is("byte " + read, answer >>> 8 * i & 255, Due.patternAt(read));
                read++;
            }
        } else if (x.about(reader, 0) == 7) {
            x.close(reader);
        }
    }
}
