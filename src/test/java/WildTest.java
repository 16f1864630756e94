import java.util.Random;

/** Any arguments in any state, for longer than an object is used: no call throws, and REFUSALS are counted. */
public final class WildTest {
    private static final int RUNS = 400;
    private static final int CALLS = 3000;
    private static final int[] WILD = {Integer.MIN_VALUE, -10000, -10, -9, -2, -1, 6, 10, 40, 59, 60, 61,
        9999, 10000, 10001, 1199, 1200, Integer.MAX_VALUE - 1, Integer.MAX_VALUE};

    private final RangeHouse x = new RangeHouse();
    private final Random random;
    private final int wildness;
    private final int[] refused = new int[7];

    private WildTest(int run) {
        random = new Random(1000 + run);
        wildness = run % 4 == 0 ? 2 : 12;
    }

    public static void main(String[] args) {
        for (int run = 0; run < RUNS; run++) {
            WildTest it = new WildTest(run);
            try {
                it.play();
            } catch (RuntimeException | Error e) {
                e.printStackTrace(System.out);
                Check.holds("run " + run + " threw " + e, false);
            }
        }
        Check.end("WildTest");
    }

    private void play() {
        for (int i = 0; i < CALLS; i++) {
            int kind = random.nextInt(24);
            long answer = change(kind);
            if (kind < 17 && answer < 0) {
                Check.holds("a REFUSAL: " + answer, answer >= -6);
                refused[(int) -answer]++;
            }
        }
        for (int i = 1; i <= 6; i++) {
            Check.due("REFUSALS -" + i, x.status(10 + i), refused[i]);
        }
        Check.holds("1200 LETTERS at most", x.status(3) <= 1200);
        Check.holds("40 RANGES at most", x.status(1) <= 40);
        Check.holds("6 CALLERS at most", x.status(2) <= 6);
    }

    private long change(int kind) {
        switch (kind) {
            case 0: return x.caller();
            case 1: case 2: return x.call(arg(6), arg(5), arg(10000), random.nextLong(), arg(3));
            case 3: return x.again(arg(6), arg(60));
            case 4: return x.learn(arg(6));
            case 5: return x.move(arg(40), arg(6));
            case 6: return random.nextInt(4) == 0 ? x.undo(arg(40)) : x.step(arg(6));
            case 7: return x.split(arg(40), arg(10000));
            case 8: return x.merge(arg(40), arg(40));
            case 9: return x.step(arg(6));
            case 10: case 11: case 12: return x.deliver(arg(x.status(3) + 1));
            case 13: return random.nextInt(4) == 0 ? x.lose(arg(1200)) : x.deliver(x.status(3) - 1);
            case 14: return random.nextInt(4) == 0 ? x.fall(arg(6)) : x.rise(arg(6));
            case 15: return x.rise(arg(6));
            case 16: return x.weight(arg(6));
            case 17: return x.answer(arg(6), arg(60), arg(6));
            case 18: return x.copy(arg(6), arg(10000), arg(5));
            case 19: return x.letter(arg(1200), arg(11));
            case 20: return x.range(arg(40), arg(7));
            case 21: return x.at(arg(6), arg(40), arg(9)) + x.row(arg(6), arg(40), arg(10000));
            case 22: return x.plan() + x.order(arg(360), arg(5));
            default: return x.status(arg(17));
        }
    }

    private int arg(int below) {
        return random.nextInt(wildness) == 0 ? WILD[random.nextInt(WILD.length)] : random.nextInt(below);
    }
}
