/** Promise 18. */
public final class CountTest {
    public static void main(String[] args) {
        StreamPair x = new StreamPair();
        Due.is("before an open", x.count(2), 0);
        int[] others = {-1, 5, 6, Integer.MAX_VALUE, Integer.MIN_VALUE};
        for (int what : others) {
            Due.is("count(" + what + ")", x.count(what), -1);
        }
        x.tick(17);
        Due.is("TIME", x.count(0), 17);
        x.open(1, 2);
        x.copy(0);
        x.copy(0);
        Due.is("on their way", x.count(1), 3);
        x.open(1, 2);
        Due.is("on their way", x.count(1), 1);
        Due.is("connections", x.count(2), 2);
        x.feed(1, 2, 3, 4, 5);
        x.end(13);
        Due.is("the tape", x.count(3), 13);
        for (int i = 0; i < 485; i++) {
            x.copy(0);
        }
        Due.is("on their way", x.count(1), 486);
        Due.is("lost", x.count(4), 0);
        Due.is("TIME", x.count(0), 17);
        unlikeEachOther();
        Due.finish();
    }

    /** Each of the five has a value of its own here. */
    private static void unlikeEachOther() {
        StreamPair x = new StreamPair();
        x.open(1, 2);
        x.open(1, 2);
        x.open(1, 2);
        x.tick(183000);
        for (int i = 9; i < 512 + 2; i++) {
            x.copy(0);
        }
        Due.is("lost", x.count(4), 2);
        Due.is("connections", x.count(2), 3);
        Due.is("others", x.count(5), -1);
    }
}
