import com.sun.management.ThreadMXBean;
import java.lang.management.ManagementFactory;

/**
 * What a run of 512 calls makes, the object itself too, stays far below 7.3 million elements. It is counted
 * in bytes, of which an element or a field takes one or more.
 */
public final class RoomTest {
    private static final ThreadMXBean THREADS = (ThreadMXBean) ManagementFactory.getThreadMXBean();

    private interface Run {
        void on(StreamPair x);
    }

    public static void main(String[] args) {
        runs("making alone", 2000, x -> x.count(0));
        runs("copies of great segments", 1000000, RoomTest::copies);
        runs("copying and dropping", 20000, RoomTest::drops);
        runs("copying and delivering", 200000, RoomTest::delivers);
        runs("opening again and again", 200000, RoomTest::opens);
        runs("a window full of bytes", 250000, RoomTest::fullWindow);
        runs("both ways, with timers", 500000, RoomTest::bothWays);
        runs("injecting", 50000, RoomTest::injects);
        Due.finish();
    }

    private static void runs(String what, long most, Run run) {
        run.on(new StreamPair());
        long before = THREADS.getThreadAllocatedBytes(Thread.currentThread().getId());
        run.on(new StreamPair());
        long made = THREADS.getThreadAllocatedBytes(Thread.currentThread().getId()) - before;
        Due.is(what + " makes " + made + " bytes: too many", made > most ? 1 : 0, 0);
    }

    private static void join(StreamPair x) {
        x.open(0, 0);
        x.deliver(0);
        x.deliver(0);
        x.deliver(0);
    }

    private static void feed(StreamPair x, int times) {
        for (int i = 0; i < times; i++) {
            x.feed(i, i, i, i, i);
        }
    }

    private static void copies(StreamPair x) {
        join(x);
        feed(x, 73);
        x.write(0);
        for (int i = 0; i < 434; i++) {
            x.copy(0);
        }
    }

    private static void drops(StreamPair x) {
        join(x);
        feed(x, 73);
        x.write(0);
        for (int i = 0; i < 217; i++) {
            x.copy(0);
            x.drop(1);
        }
    }

    private static void delivers(StreamPair x) {
        join(x);
        feed(x, 73);
        x.write(0);
        for (int i = 0; i < 144; i++) {
            x.copy(0);
            x.deliver(1);
            x.deliver(1);
        }
    }

    private static void opens(StreamPair x) {
        for (int i = 0; i < 73; i++) {
            join(x);
            x.feed(1, 2, 3, 4, 5);
            x.write(0);
            x.deliver(0);
        }
    }

    private static void fullWindow(StreamPair x) {
        join(x);
        feed(x, 146);
        x.write(0);
        x.close(0);
        for (int i = 0; i < 41; i++) {
            x.copy(0);
            x.flip(x.count(1) - 1, 6, 4 * i, true);
            x.deliver(x.count(1) - 1);
            x.read(1, 7);
        }
        for (int i = 0; i < 40; i++) {
            x.deliver(0);
        }
    }

    private static void bothWays(StreamPair x) {
        join(x);
        feed(x, 200);
        x.write(0);
        feed(x, 100);
        x.write(1);
        for (int i = 0; i < 205; i++) {
            if (i % 3 == 0) {
                x.copy(0);
            } else if (i % 3 == 1) {
                x.deliver(0);
            } else {
                x.tick(1000);
            }
        }
    }

    private static void injects(StreamPair x) {
        join(x);
        for (int i = 0; i < 250; i++) {
            x.feed(i, i, i, i, i);
            x.inject(i % 2);
        }
    }
}
