/**
 * Edges that no 512 calls reach. The document leaves free what an object answers after so many; this program
 * goes on as before, so that these sentences of it can be tested, too.
 */
public final class BeyondTest {
    private static int taken;

    public static void main(String[] args) {
        fullTape();
        fullTapeIsWritten();
        tooManyWait();
        portsComeRound();
        timeModulo();
        greatestWindow();
        growthEnds();
        leastGrowth();
        Due.finish();
    }

    private static void fullTape() {
        StreamPair x = new StreamPair();
        for (int i = 1; i <= 3276; i++) {
            Due.is("feed", x.feed(i, i, i, i, i), 20 * i);
        }
        Due.throwing("feed with room for 16", IllegalStateException.class, x, () -> x.feed(1, 2, 3, 4, 5));
        Due.is("count(3)", x.count(3), 65520);
        x.end(65517);
        Due.throwing("feed with room for 19", IllegalStateException.class, x, () -> x.feed(1, 2, 3, 4, 5));
        x.end(65516);
        Due.is("feed with room for just 20", x.feed(1, 2, 3, 4, 5), 65536);
        Due.throwing("feed of a full tape", IllegalStateException.class, x, () -> x.feed(1, 2, 3, 4, 5));
        Due.throwing("end behind a full tape", IllegalArgumentException.class, x, () -> x.end(65537));
        Due.is("end of all", x.end(65536), 65536);
        Due.is("end", x.end(20), 20);
        x.inject(0);
        Due.same("the bytes", Due.hex(Due.bytes(x, 0)), "0000000100000001000000010000000100000001");
    }

    private static void fullTapeIsWritten() {
        StreamPair x = Due.joined(0, 0);
        Due.is("write", Due.write(x, 0, 65536), 65536);
        Due.is("the tape is empty", x.count(3), 0);
        Due.is("feed", x.feed(1, 2, 3, 4, 5), 20);
        Due.is("they wait", x.about(0, 3), 65536);
    }

    private static void tooManyWait() {
        StreamPair x = Due.joined(0, 0);
        Due.is("write", Due.write(x, 0, 65536), 65536);
        Due.is("write", Due.write(x, 0, 65535), 65535);
        Due.is("write of one when 131,071 wait", Due.write(x, 0, 1), 1);
        Due.is("write of one when 131,072 wait", Due.write(x, 0, 1), 1);
        x.feed(1, 2, 3, 4, 5);
        Due.throwing("write when 131,073 wait", UnsupportedOperationException.class, x, () -> x.write(0));
        x.end(0);
        Due.throwing("write of nothing, too", UnsupportedOperationException.class, x, () -> x.write(0));
        Due.is("the other end may write", Due.write(x, 1, 5), 5);
        x.drop(x.count(1) - 1);
        x.deliver(0);
        x.deliver(x.count(1) - 1);
        Due.is("they wait", x.about(0, 3), 131073 - 1460);
        Due.is("write when fewer wait: the TAPE does not count", Due.write(x, 0, 65536), 65536);
        Due.is("they wait", x.about(0, 3), 131073 - 1460 + 65536);
        x.close(0);
        Due.throwing("write of too many when closed", IllegalStateException.class, x, () -> x.write(0));
        takeEverything(x);
    }

    private static void takeEverything(StreamPair x) {
        taken = 0;
        for (int i = 0; i < 100000 && (x.count(1) > 0 || x.about(0, 0) != 6); i++) {
            if (x.count(1) > 0) {
                x.deliver(0);
            } else {
                x.tick(1000);
            }
            takeUnread(x);
        }
        Due.is("all went", taken, 65536 + 65535 + 1 + 1 + 65536);
    }

    private static void takeUnread(StreamPair x) {
        while (x.about(1, 2) > 0) {
            long answer = x.read(1, 7);
            for (int i = (int) (answer >>> 56) - 1; i >= 0; i--) {
                Due.is("byte " + taken, answer >>> 8 * i & 255, Due.patternAt(placeInItsWrite(taken)));
                taken++;
            }
        }
    }

    private static int placeInItsWrite(int place) {
        int[] lengths = {65536, 65535, 1, 1};
        int left = place;
        for (int length : lengths) {
            if (left < length) {
                return left;
            }
            left -= length;
        }
        return left;
    }

    private static void portsComeRound() {
        StreamPair x = new StreamPair();
        for (int i = 0; i < 20000; i++) {
            x.open(i, i);
        }
        Due.is("the last port", Due.number(x, 0, 0, 2), 59999);
        Due.is("open", x.open(0, 0), 20000);
        Due.is("the first port again", Due.number(x, 0, 0, 2), 40000);
        Due.is("connections", x.count(2), 20001);
    }

    private static void timeModulo() {
        StreamPair x = new StreamPair();
        long time = 0;
        for (int i = 0; i < 2147; i++) {
            time += 1000000;
            Due.is("tick", x.tick(1000000), time);
        }
        Due.is("tick", x.tick(483647), 2147483647L);
        Due.is("TIME", x.count(0), 2147483647);
        Due.is("tick", x.tick(1), 2147483648L);
        Due.is("TIME modulo 2 to the 31st", x.count(0), 0);
        x.open(1, 2);
        Due.is("the timer", x.about(0, 11), 1000);
        Due.is("tick", x.tick(1000), 2147484648L);
        Due.is("it came due", x.count(1), 2);
        Due.is("TIME modulo 2 to the 31st", x.count(0), 1000);
    }

    /** 65,535 bytes, of which the first come last: each is read as it came. */
    private static void greatestWindow() {
        StreamPair x = Due.joined(-5, 0);
        byte[] none = new byte[0];
        for (int from = 1000; from < 65535; from += 1460) {
            Due.comes(x, 1, Due.forged(1, Due.ACK, -4 + from, 1, 9, none, Due.pattern(from, 1460)));
        }
        Due.is("kept", x.about(1, 15), 64535);
        Due.dropAll(x);
        Due.comes(x, 1, Due.forged(1, Due.ACK, -4, 1, 9, none, Due.pattern(0, 1000)));
        Due.is("unread", x.about(1, 2), 65535);
        Due.segment("ACK", x, 0, 0, 20, Due.ACK, 1, 65531, 0);
        for (int i = 0; i < 65535; i++) {
            Due.is("byte " + i, x.read(1, 1), 1L << 56 | Due.patternAt(i));
        }
    }

    private static void growthEnds() {
        StreamPair x = Due.joined(0, 0);
        int cwnd = 5840;
        for (int i = 0; i < 400000 && cwnd < 1000000; i++) {
            x.feed(1, 2, 3, 4, 5);
            x.write(0);
            x.deliver(0);
            x.deliver(0);
            int more = cwnd < 65535 ? 20 : Math.max(1, 1460 * 1460 / cwnd);
            cwnd = Math.min(1000000, cwnd + more);
            if (x.about(0, 4) != cwnd) {
                Due.is("CWND", x.about(0, 4), cwnd);
                return;
            }
            while (x.about(1, 2) > 0) {
                x.read(1, 7);
            }
        }
        Due.is("CWND", x.about(0, 4), 1000000);
        Due.write(x, 0, 1);
        Due.deliverAll(x);
        Due.is("CWND at most", x.about(0, 4), 1000000);
    }

    private static void leastGrowth() {
        StreamPair x = new StreamPair();
        x.set(0, 1, 64);
        Due.join(x, 0, 0);
        for (int i = 0; i < 1100; i++) {
            Due.write(x, 0, 64);
            x.deliver(0);
            x.deliver(0);
            while (x.about(1, 2) > 0) {
                x.read(1, 7);
            }
        }
        int cwnd = x.about(0, 4);
        Due.is("CWND is above THRESH and SEGMENT squared", cwnd > 65535 ? 1 : 0, 1);
        Due.write(x, 0, 1);
        Due.deliverAll(x);
        Due.is("by 1 at least", x.about(0, 4), cwnd + 1);
    }
}
