import java.util.NoSuchElementException;

/** Promise 5, and what ROOM and MSS do. */
public final class SetTest {
    public static void main(String[] args) {
        valuesBefore();
        wrongInputs();
        roomShrinksAndGrows();
        roomBeforeTheSyn();
        mssCountsFromTheNextSyn();
        mssBetweenTheSyns();
        lesserMssCounts();
        endsOfTheRanges();
        mssAfterTheSyn();
        Due.finish();
    }

    private static void valuesBefore() {
        StreamPair x = new StreamPair();
        for (int e = 0; e < 2; e++) {
            Due.is("ROOM at first", x.set(e, 0, 0), 65535);
            Due.is("ROOM", x.set(e, 0, 65535), 0);
            Due.is("ROOM", x.set(e, 0, 17 + e), 65535);
            Due.is("MSS at first", x.set(e, 1, 64), 1460);
            Due.is("MSS", x.set(e, 1, 1460), 64);
            Due.is("MSS", x.set(e, 1, 100 + e), 1460);
        }
        Due.is("ROOM of END 0", x.set(0, 0, 1), 17);
        Due.is("ROOM of END 1", x.set(1, 0, 1), 18);
        Due.is("MSS of END 0", x.set(0, 1, 70), 100);
        Due.is("MSS of END 1", x.set(1, 1, 70), 101);
    }

    private static void wrongInputs() {
        for (int e : Due.NO_ENDS) {
            Due.refused("set of no end", NoSuchElementException.class, StreamPair::new, x -> x.set(e, 0, 5));
            Due.refused("set of nothing right", NoSuchElementException.class, StreamPair::new, x -> x.set(e, 7, -5));
            Due.refused("set of a wrong value, too", NoSuchElementException.class, StreamPair::new,
                    x -> x.set(e, 0, 65536));
        }
        int[][] wrong = {{0, -1}, {0, 65536}, {0, Integer.MIN_VALUE}, {0, Integer.MAX_VALUE}, {1, 63}, {1, 1461},
            {1, 0}, {1, -1}, {1, Integer.MIN_VALUE}, {1, Integer.MAX_VALUE}, {2, 100}, {-1, 100},
            {Integer.MAX_VALUE, 100}, {Integer.MIN_VALUE, 100}};
        for (int[] pair : wrong) {
            for (int end = 0; end < 2; end++) {
                int e = end;
                StreamPair x = Due.joined(1, 2);
                String what = "set of what " + pair[0] + " to " + pair[1];
                Due.throwing(what, IllegalArgumentException.class, x, () -> x.set(e, pair[0], pair[1]));
                Due.is("ROOM stays", x.set(e, 0, 1), 65535);
                Due.is("MSS stays", x.set(e, 1, 64), 1460);
                Due.is("the other's ROOM stays", x.set(1 - e, 0, 1), 65535);
                Due.is("the other's MSS stays", x.set(1 - e, 1, 64), 1460);
            }
        }
    }

    private static void roomShrinksAndGrows() {
        StreamPair x = Due.joined(0, 0);
        Due.is("window at first", x.about(1, 9), 65535);
        x.set(1, 0, 10);
        Due.is("the window once told stays", x.about(1, 9), 65535);
        Due.write(x, 0, 30);
        x.deliver(0);
        Due.is("the window told does not go back", Due.window(x, 0), 65505);
        Due.is("unread above ROOM", x.about(1, 2), 30);
        x.deliver(0);
        Due.is("FAR", x.about(0, 8), 65505);
        x.set(1, 0, 65535);
        Due.is("set alone tells nothing", x.about(1, 9), 65505);
        x.read(1, 7);
        Due.is("not worth an ACK", x.count(1), 0);
    }

    private static void roomBeforeTheSyn() {
        StreamPair x = new StreamPair();
        x.set(0, 0, 0);
        x.set(1, 0, 0);
        x.open(0, 0);
        Due.is("window of the SYN", Due.window(x, 0), 0);
        x.set(0, 0, 700);
        x.deliver(0);
        Due.is("window of the SYN and ACK", Due.window(x, 0), 0);
        x.deliver(0);
        Due.is("window of the ACK", Due.window(x, 0), 700);
        x.tick(1000);
        Due.is("END 1 sends its SYN again", Due.flags(x, 1), Due.SYN | Due.ACK);
        x.deliver(0);
        Due.is("state", x.about(1, 0), 4);
        Due.is("FAR", x.about(1, 8), 700);
        Due.is("FAR", x.about(0, 8), 0);
    }

    private static void mssCountsFromTheNextSyn() {
        StreamPair x = Due.joined(0, 0);
        x.set(0, 1, 100);
        Due.write(x, 0, 3000);
        Due.is("SEGMENT stays", x.seen(0, -1), 1480);
        x.open(0, 0);
        Due.is("the next SYN tells it", Due.number(x, 0, 20, 4), 0x02040064);
        x.set(0, 1, 200);
        x.tick(1000);
        Due.is("and the next", Due.number(x, 1, 20, 4), 0x020400C8);
    }

    /** The document leaves open whether this set counts: the next SYN is that of END 1, so here it does. */
    private static void mssBetweenTheSyns() {
        StreamPair x = new StreamPair();
        x.open(1000, 5000);
        x.set(0, 1, 100);
        x.deliver(0);
        x.deliver(0);
        Due.is("CWND of END 0", x.about(0, 4), 400);
        Due.is("CWND of END 1, who was told 1460", x.about(1, 4), 5840);
    }

    private static void lesserMssCounts() {
        int[][] both = {{64, 1460}, {1460, 64}, {100, 200}, {200, 100}, {1460, 1460}};
        for (int[] mss : both) {
            StreamPair x = new StreamPair();
            x.set(0, 1, mss[0]);
            x.set(1, 1, mss[1]);
            Due.join(x, 5, 6);
            int segment = Math.min(mss[0], mss[1]);
            Due.is("CWND of END 0", x.about(0, 4), 4 * segment);
            Due.is("CWND of END 1", x.about(1, 4), 4 * segment + 1);
            Due.write(x, 0, 1500);
            Due.is("data of a segment", x.seen(0, -1), 20 + segment);
        }
    }

    private static void endsOfTheRanges() {
        int[] rooms = {0, 1, 65534, 65535};
        for (int room : rooms) {
            StreamPair x = new StreamPair();
            Due.is("set", x.set(1, 0, room), 65535);
            Due.join(x, 1, 2);
            Due.is("EDGE - RCV", x.about(1, 9), room);
            Due.is("FAR", x.about(0, 8), room);
            Due.is("EDGE - RCV of the other", x.about(0, 9), 65535);
        }
        int[] sizes = {64, 65, 1459, 1460};
        for (int size : sizes) {
            for (int e = 0; e < 2; e++) {
                StreamPair x = new StreamPair();
                Due.is("set", x.set(e, 1, size), 1460);
                x.open(1, 2);
                Due.is("MSS in the SYN", Due.number(x, 0, 20, 4), 0x02040000 | (e == 0 ? size : 1460));
                x.deliver(0);
                Due.is("MSS in the SYN and ACK", Due.number(x, 0, 20, 4), 0x02040000 | (e == 1 ? size : 1460));
                x.deliver(0);
                x.deliver(0);
                Due.is("CWND of END 0", x.about(0, 4), 4 * size);
                Due.is("CWND of END 1", x.about(1, 4), 4 * size + 1);
            }
        }
    }

    /** Of END 1, too: SEGMENT is known when the SYN came, and the SYN that is sent again tells what is set then. */
    private static void mssAfterTheSyn() {
        StreamPair x = Due.inState(3);
        x.set(1, 1, 100);
        Due.is("CWND stays", x.about(1, 4), 5840);
        x.tick(1000);
        Due.is("the SYN again tells it", Due.number(x, x.count(1) - 1, 20, 4), 0x02040064);
        Due.comes(x, 1, Due.ACK, 1001, 5001, 65535, 0);
        Due.is("CWND grew by 1 alone", x.about(1, 4), 5841);
        Due.dropAll(x);
        Due.write(x, 1, 300);
        Due.is("SEGMENT stays", x.seen(0, -1), 320);
    }
}
