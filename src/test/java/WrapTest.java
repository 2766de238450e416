/** Numbers are compared modulo 2^32: each comparison where numbers wrap, at 2^32 and where the sign turns. */
public final class WrapTest {
    private static final int MOST = Integer.MAX_VALUE;
    private static final int LEAST = Integer.MIN_VALUE;
    /* Numbers so close to a wrap-around that a short stream goes past it. */
    private static final int[] STARTS = {0, 1, -1, -2, -3, -64, -65, -100, -200, -1000, MOST, MOST - 1, MOST - 64,
        MOST - 65, MOST - 150, MOST - 1000, LEAST, LEAST + 1, 12345678};

    public static void main(String[] args) {
        handshakes();
        sameWhereverItStarts();
        windowOverTheWrap();
        windowAtTheSign();
        ackAtTheSign();
        windowNumbersAtTheSign();
        timedOverTheWrap();
        finOverTheWrap();
        pushOverTheWrap();
        sameOverTheWrap();
        Due.finish();
    }

    private static void handshakes() {
        for (int first : STARTS) {
            for (int second : STARTS) {
                StreamPair x = new StreamPair();
                x.open(first, second);
                Due.segment("SYN", x, 0, 1, 24, Due.SYN, first, 0, 65535);
                x.deliver(0);
                Due.segment("SYN and ACK", x, 0, 0, 24, Due.SYN | Due.ACK, second, first + 1, 65535);
                x.deliver(0);
                Due.segment("ACK", x, 0, 1, 20, Due.ACK, first + 1, second + 1, 65535);
                x.deliver(0);
                String both = "4 0 0 0 5840 65535 200 0 65535 65535 2 -1 0 0 0 0 0";
                Due.same("END 0", Due.facts(x, 0), both);
                Due.same("END 1", Due.facts(x, 1), both.replace("5840", "5841").replace("65535 2 ", "65535 1 "));
            }
        }
    }

    /** All but the numbers themselves is the same, wherever they start. */
    private static void sameWhereverItStarts() {
        for (int plan = 0; plan < 12; plan++) {
            String due = told(plan, 1000, 5000);
            for (int start : STARTS) {
                Due.same("plan " + plan + " from " + start, told(plan, start, 777), due);
                Due.same("plan " + plan + " with END 1 from " + start, told(plan, 777, start), due);
            }
        }
    }

    private static String told(int plan, int first, int second) {
        StreamPair x = new StreamPair();
        x.set(0, 1, 64 + plan);
        x.set(1, 0, 150 + 40 * plan);
        Due.join(x, first, second);
        long chance = 77 + plan;
        for (int i = 0; i < 60; i++) {
            chance = chance * 6364136223846793005L + 1442695040888963407L;
            step(x, i, (int) (chance >>> 40));
        }
        StringBuilder text = new StringBuilder(Due.facts(x, 0)).append('|').append(Due.facts(x, 1));
        int n = Math.min(x.count(1), 10);
        for (int k = 0; k < n; k++) {
            int to = x.seen(k, -2);
            text.append('|').append(to).append(' ').append(Due.flags(x, k)).append(' ').append(x.seen(k, -1));
            text.append(' ').append(Due.seq(x, k) - (to == 1 ? first : second));
            text.append(' ').append(Due.ack(x, k) - (to == 1 ? second : first));
        }
        return text.toString();
    }

    private static void step(StreamPair x, int i, int chance) {
        int n = x.count(1);
        int e = chance >> 8 & 1;
        if (i == 50 || i == 55) {
            if (x.about(e, 0) == 4) {
                x.close(e);
            }
        } else if (i % 6 == 0 && x.about(e, 0) == 4) {
            Due.write(x, e, 30 + (chance & 127));
        } else if (i % 7 == 6) {
            x.tick(150);
        } else if (i % 11 == 10) {
            x.set(1, 0, 200 + (chance & 255));
        } else if (n > 0) {
            int k = (chance & 1023) % n;
            if ((chance >> 12) % 5 == 0) {
                x.drop(k);
            } else {
                x.deliver(k);
            }
        }
    }

    /** RCV is -3 and EDGE 7. */
    private static void windowOverTheWrap() {
        int[][] cases = {{-4, 0}, {-3, 1}, {-2, 1}, {-1, 1}, {0, 1}, {6, 1}, {7, 0}, {8, 0}};
        for (int[] one : cases) {
            StreamPair x = withRoomOfTen(-4);
            Due.comes(x, 1, Due.ACK, one[0], 5001, 9, 1);
            Due.is("a byte at " + one[0], x.about(1, 2) + x.about(1, 15), one[1]);
            StreamPair y = withRoomOfTen(-4);
            Due.comes(y, 1, Due.ACK, one[0], 5001, 9, 0);
            Due.is("an ACK at " + one[0], y.about(1, 8), one[1] == 1 ? 9 : 65535);
        }
        StreamPair z = withRoomOfTen(-4);
        Due.comes(z, 1, Due.ACK, -1, 5001, 9, 20);
        Due.is("kept to EDGE - 1", z.about(1, 15), 8);
        Due.comes(z, 1, Due.ACK, -5, 5001, 9, 4);
        Due.is("unread", z.about(1, 2), 10);
        Due.is("RCV", Due.ack(z, z.count(1) - 1), 7);
    }

    private static StreamPair withRoomOfTen(int first) {
        StreamPair x = new StreamPair();
        x.set(1, 0, 10);
        Due.join(x, first, 5000);
        return x;
    }

    /** The same where the sign turns: RCV is 2^31 - 3 and EDGE -2^31 + 7. */
    private static void windowAtTheSign() {
        int[][] cases = {{MOST - 3, 0}, {MOST - 2, 1}, {MOST, 1}, {LEAST, 1}, {LEAST + 6, 1}, {LEAST + 7, 0}};
        for (int[] one : cases) {
            StreamPair x = withRoomOfTen(MOST - 3);
            Due.comes(x, 1, Due.ACK, one[0], 5001, 9, 1);
            Due.is("a byte at " + one[0], x.about(1, 2) + x.about(1, 15), one[1]);
        }
        StreamPair y = withRoomOfTen(MOST - 3);
        Due.comes(y, 1, Due.ACK, MOST - 2, 5001, 9, 20);
        Due.is("unread", y.about(1, 2), 10);
        Due.segment("ACK", y, 0, 0, 20, Due.ACK, 5001, LEAST + 7, 0);
    }

    /** UNA is 1001, and MAX 1011: what lies 2^31 or more beyond is below. */
    private static void ackAtTheSign() {
        int[][] cases = {{1012, 1}, {1001 + MOST, 1}, {1001 + LEAST, 1}, {1010 + LEAST, 1}, {1011 + LEAST, 0},
            {1012 + LEAST, 0}, {1000, 0}, {1001, 0}};
        for (int[] one : cases) {
            StreamPair x = Due.joined(1000, 5000);
            Due.write(x, 0, 10);
            Due.dropAll(x);
            Due.comes(x, 0, Due.ACK, 5001, one[0], 9, 0);
            Due.is("beyond MAX is answered: " + one[0], x.count(1), one[1]);
            Due.is("not acknowledged", x.about(0, 3), 10);
            Due.is("FAR", x.about(0, 8), one[0] == 1001 ? 9 : 65535);
        }
    }

    /** The SYN tells WL2; what comes next has the SEQ WL1 and the ACK number 5001. */
    private static void windowNumbersAtTheSign() {
        int[][] cases = {{5000, 1}, {5001, 1}, {5002, 0}, {5001 + MOST, 0}, {5001 + LEAST, 0}, {5002 + LEAST, 1}};
        for (int[] one : cases) {
            StreamPair x = Due.inState(1);
            Due.comes(x, 1, Due.SYN, 7, one[0], 50, 0);
            Due.comes(x, 1, Due.ACK, 7, 5001, 777, 3);
            Due.is("ESTABLISHED", x.about(1, 0), 4);
            Due.is("FAR with WL2 " + one[0], x.about(1, 8), one[1] == 1 ? 777 : 50);
        }
        int[] seconds = {-3, -2, -1, 0, MOST - 2, MOST - 1, MOST, LEAST};
        for (int second : seconds) {
            StreamPair x = Due.joined(1000, second);
            Due.comes(x, 0, Due.ACK, second + 1, 1001, 600, 0);
            Due.is("FAR", x.about(0, 8), 600);
            Due.comes(x, 0, Due.ACK, second + 3, 1001, 700, 0);
            Due.is("FAR of a newer SEQ", x.about(0, 8), 700);
            Due.comes(x, 0, Due.ACK, second + 2, 1001, 800, 0);
            Due.is("FAR of an older SEQ", x.about(0, 8), 700);
        }
    }

    private static void timedOverTheWrap() {
        int[] firsts = {-12, -11, -10, -2, MOST - 11, MOST - 10, MOST - 1};
        for (int first : firsts) {
            StreamPair x = Due.joined(first, 0);
            Due.write(x, 0, 10);
            x.tick(80);
            Due.comes(x, 0, Due.ACK, 1, first + 10, 65535, 0);
            Due.is("one byte less than is TIMED", x.about(0, 13), 0);
            Due.is("not acknowledged", x.about(0, 3), 1);
            Due.comes(x, 0, Due.ACK, 1, first + 11, 65535, 0);
            Due.is("all that is TIMED", x.about(0, 13), 10);
            Due.is("not acknowledged", x.about(0, 3), 0);
        }
    }

    private static void finOverTheWrap() {
        int[] firsts = {-3, -2, -1, MOST - 2, MOST - 1, MOST};
        for (int first : firsts) {
            StreamPair x = Due.joined(first, 0);
            Due.write(x, 0, 1);
            x.close(0);
            Due.segment("FIN", x, 1, 1, 20, Due.FIN | Due.ACK, first + 2, 1, 65535);
            x.deliver(0);
            x.deliver(1);
            Due.is("the data alone is acknowledged", x.about(0, 0), 5);
            x.deliver(0);
            Due.is("CLOSE_WAIT", x.about(1, 0), 7);
            x.deliver(0);
            Due.is("FIN_WAIT_2", x.about(0, 0), 6);
            Due.is("nothing is on the way", x.about(0, 14), 0);
        }
    }

    /** The last of three segments has PSH alone, wherever the numbers wrap between them. */
    private static void pushOverTheWrap() {
        for (int middle : new int[] {0, LEAST}) {
            for (int before = 0; before <= 200; before += 8) {
                StreamPair x = new StreamPair();
                x.set(0, 1, 64);
                Due.join(x, middle - before, 0);
                Due.write(x, 0, 192);
                Due.is("segments", x.count(1), 3);
                for (int k = 0; k < 3; k++) {
                    Due.is("flags of segment " + k + " from " + (middle - before), Due.flags(x, k),
                            k == 2 ? Due.ACK | Due.PSH : Due.ACK);
                }
            }
        }
    }

    /** UNA is 5 behind the first number: only an ACK of that number is the same again. */
    private static void sameOverTheWrap() {
        for (int middle : new int[] {0, LEAST}) {
            for (int before = 0; before <= 12; before++) {
                int first = middle - before;
                StreamPair x = Due.joined(first, 0);
                Due.write(x, 0, 10);
                Due.comes(x, 0, Due.ACK, 1, first + 6, 65535, 0);
                Due.is("not acknowledged", x.about(0, 3), 5);
                for (int older = first - 1; older != first + 6; older++) {
                    Due.comes(x, 0, Due.ACK, 1, older, 65535, 0);
                    Due.is("SAME after an older number, " + older, x.about(0, 12), 0);
                }
                Due.comes(x, 0, Due.ACK, 1, first + 6, 65535, 0);
                Due.is("SAME after the same", x.about(0, 12), 1);
            }
        }
    }
}
