/**
 * Whatever the network does, short of mending what it altered, one end reads what the other wrote. One way
 * at a time: when both ends resend at once, what the document tells can let them refuse each other's ACKs.
 */
public final class LossyStreamTest {
    private static final int CALLS = 512;

    private final StreamPair x = new StreamPair();
    private final int bytes;
    private final int writer;
    private final int reader;
    private int written;
    private int read;
    private int calls;
    private long chance;

    private LossyStreamTest(int seed, int bytes) {
        chance = seed;
        this.bytes = bytes;
        writer = seed % 2;
        reader = 1 - writer;
    }

    public static void main(String[] args) {
        int ended = 0;
        for (int seed = 1; seed <= 1000; seed++) {
            ended += new LossyStreamTest(seed, 200 + seed % 7 * 30).run(seed) ? 1 : 0;
        }
        Due.is("of 1000 streams more than 900 came to their end", ended > 900 ? 1 : 0, 1);
        Due.finish();
    }

    private int below(int n) {
        chance = chance * 6364136223846793005L + 1442695040888963407L;
        return (int) ((chance >>> 33) % n);
    }

    /** Whether the stream came to its end within its calls. */
    private boolean run(int seed) {
        x.set(0, 1, 64 + below(100));
        x.set(1, 1, 64 + below(100));
        x.set(below(2), 0, 100 + below(300));
        x.open((int) chance, -2 + below(4));
        calls = 4;
        while (calls < CALLS - 60 && !isDone()) {
            step();
        }
        Due.is("seed " + seed + ": the writer was not broken off", x.about(writer, 1), 0);
        if (!isDone()) {
            return false;
        }
        Due.is("seed " + seed + ": bytes read", read, bytes);
        String answer = "none";
        try {
            x.read(reader, 1);
        } catch (IllegalStateException e) {
            answer = "IllegalStateException";
        }
        Due.same("read behind the end", answer, "IllegalStateException");
        return true;
    }

    private boolean isDone() {
        calls += 2;
        return read == bytes && x.about(0, 0) % 10 == 0 && x.about(1, 0) % 10 == 0;
    }

    private void step() {
        writeSome();
        readSome();
        int n = x.count(1);
        calls += 2;
        if (n == 0) {
            x.tick(1 + below(300));
            return;
        }
        int k = below(4) == 0 ? below(n) : 0;
        int what = below(20);
        if (what == 0) {
            x.drop(k);
        } else if (what == 1 && n < 40) {
            x.copy(k);
        } else if (what == 2) {
            calls += 2;
            x.flip(k, below(x.seen(k, -1)), 1 << below(8), false);
            /* At once, since a second bit altered can make the checksum right again. */
            x.deliver(k);
        } else {
            x.deliver(k);
        }
    }

    private void writeSome() {
        calls++;
        if (x.about(writer, 0) != 4 || below(2) != 0) {
            return;
        }
        calls++;
        if (written == bytes) {
            x.close(writer);
            return;
        }
        int n = Math.min(below(300), bytes - written);
        Due.lay(x, Due.pattern(written, n));
        x.write(writer);
        written += n;
        calls += 5 + n / 20;
    }

    private void readSome() {
        int n = 7;
        while (n == 7 && read < bytes) {
            long answer = x.read(reader, 7);
            calls++;
            n = (int) (answer >>> 56);
            for (int i = n - 1; i >= 0; i--) {
                Due.is("byte " + read, answer >>> 8 * i & 255, Due.patternAt(read));
                read++;
            }
        }
        calls++;
        if (read == bytes && x.about(reader, 0) == 7) {
            x.close(reader);
            calls += 2;
        }
    }
}
