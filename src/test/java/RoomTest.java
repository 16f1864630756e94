import com.sun.management.ThreadMXBean;
import java.lang.management.ManagementFactory;
import java.util.function.Consumer;

/**
 * The room that one run of 512 calls may fill: some 600,000 objects and arrays and 7.3 million
 * fields and elements. An object takes at least 16 bytes, a field or element at least one, so
 * a run that makes fewer bytes than MOST is far within both.
 */
public final class RoomTest {
    private static final long MOST = 1_000_000;
    private static final int CALLS = 512;

    public static void main(String[] args) {
        run("nothing but a new object", x -> { });
        run("40 RANGES, all moved, as many LETTERS as there can be", RoomTest::manyLetters);
        run("60 ROWS, sent in ATTEMPT after ATTEMPT", RoomTest::manyAttempts);
        run("learn of 40 RANGES", RoomTest::learnAll);
        run("OLDS that put a COPY right", RoomTest::manyOlds);
        run("CALLS of all CALLERS", RoomTest::manyCalls);
        run("split and merge", RoomTest::splitAndMerge);
        run("questions", RoomTest::questions);
        Check.end("RoomTest");
    }

    private static void run(String name, Consumer<RangeHouse> calls) {
        Check.test(name, () -> {
            long before = bytes();
            calls.accept(new RangeHouse());
            long made = bytes() - before;
            Check.holds(made + " bytes were made, fewer than " + MOST, made < MOST);
        });
    }

    private static long bytes() {
        ThreadMXBean threads = (ThreadMXBean) ManagementFactory.getThreadMXBean();
        return threads.getThreadAllocatedBytes(Thread.currentThread().getId());
    }

    /** 39 splits, 40 MOVES, 40 BEGINS delivered, then steps with 80 LETTERS each. */
    private static void manyLetters(RangeHouse x) {
        for (int r = 1; r < 40; r++) {
            x.split(r - 1, 100 * r);
        }
        for (int r = 0; r < 40; r++) {
            x.move(r, 1 + r % 5);
            x.deliver(r);
        }
        for (int i = 119; i < CALLS; i++) {
            x.step(0);
        }
        Check.holds("as many LETTERS as there can be", x.status(3) > 1100);
    }

    private static void manyAttempts(RangeHouse x) {
        x.caller();
        for (int i = 0; i < 60; i++) {
            x.call(0, 1, i, i, 0);
            x.deliver(2 * i);
        }
        x.move(0, 1);
        x.deliver(120);
        int calls = 123;
        for (; calls + 5 <= CALLS; calls += 5) {
            x.step(0);
            x.deliver(x.status(3) - 1);
            x.fall(1);
            x.rise(1);
            x.deliver(x.status(3) - 1);
        }
        Check.holds("it is GIVING", x.at(0, 0, 0) == 2);
    }

    private static void learnAll(RangeHouse x) {
        x.caller();
        for (int r = 1; r < 40; r++) {
            x.split(r - 1, 100 * r);
        }
        for (int i = 40; i < CALLS; i++) {
            x.learn(0);
        }
        Check.due("RANGES", x.learn(0), 40);
    }

    private static void manyOlds(RangeHouse x) {
        x.caller();
        for (int i = 0; i < 39; i++) {
            x.split(i % 2 == 0 ? 0 : i, 9000 - 200 * i);
            x.call(0, 0, 8999 - 200 * i, 0, 0);
        }
        for (int i = 79; i + 2 <= CALLS; i += 2) {
            x.deliver(i % 39);
            x.deliver(x.status(3) - 1);
        }
        Check.holds("OLDS were sent", x.letter(x.status(3) - 1, 0) == 2);
    }

    private static void manyCalls(RangeHouse x) {
        for (int c = 0; c < 6; c++) {
            x.caller();
        }
        for (int i = 6; i + 2 <= CALLS; i += 2) {
            int letter = x.status(3);
            x.call(i / 2 % 6, i % 5, i, i, i);
            x.deliver(letter);
        }
        Check.holds("CALLS were DONE", x.status(4) > 200);
    }

    private static void splitAndMerge(RangeHouse x) {
        for (int i = 0; i + 2 <= CALLS; i += 2) {
            int made = x.split(0, 5000);
            x.merge(0, made);
        }
        Check.due("RANGES that were ever made", x.status(1), 40);
    }

    private static void questions(RangeHouse x) {
        for (int i = 0; i < CALLS; i++) {
            x.plan();
        }
        Check.due("weight", x.weight(0), 0);
    }
}
