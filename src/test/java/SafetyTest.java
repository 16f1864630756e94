import java.util.HashMap;
import java.util.Map;
import java.util.Random;

/**
 * Random runs, in which LETTERS are lost, late and doubled and HOSTS fall, against
 * one plain map of all ROWS that does the CALLS in the order in which they were DONE:
 * no write is lost, done twice, or read too old; and in the end all RANGES are FREE.
 */
public final class SafetyTest {
    private static final int RUNS = 4000;
    private static final int CALLS = 512;
    private static final int[] KEYS = {0, 1, 5, 99, 100, 101, 500, 501, 4999, 5000, 7000, 9998, 9999};

    private final RangeHouse x = new RangeHouse();
    private final Random random;
    private final int run;
    private final Map<Integer, Long> rows = new HashMap<>();
    private final Map<Integer, long[]> answers = new HashMap<>();
    private final long[][][] asked = new long[6][60][];
    private int seen = 0;

    private SafetyTest(int run) {
        this.run = run;
        this.random = new Random(run);
    }

    public static void main(String[] args) {
        int[] sums = new int[4];
        for (int run = 0; run < RUNS; run++) {
            SafetyTest it = new SafetyTest(run);
            it.play();
            sums[0] += it.x.status(4);
            sums[1] += it.x.status(6);
            sums[2] += it.x.status(7);
            sums[3] += it.x.status(1) - it.x.status(0);
        }
        for (int i = 0; i < sums.length; i++) {
            Check.holds("enough happened of " + i + ": " + sums[i], sums[i] >= RUNS / 2);
        }
        Check.end("SafetyTest");
    }

    private void play() {
        x.caller();
        x.caller();
        int limit = 200 + random.nextInt(CALLS - 200);
        for (int i = 0; i < limit; i++) {
            act();
            follow();
            if (i % 16 == 0) {
                look();
            }
        }
        settle();
        follow();
        look();
    }

    private void act() {
        int range = someRange();
        int host = random.nextInt(6);
        int kind = random.nextInt(100);
        if (kind < 10) {
            ask();
        } else if (kind < 14) {
            askAgain();
        } else if (kind < 72) {
            x.deliver(someLetter());
        } else if (kind < 74) {
            x.lose(someLetter());
        } else if (kind < 86) {
            x.step(x.range(range, 3));
        } else if (kind < 89) {
            x.move(range, host);
        } else if (kind < 90) {
            x.undo(range);
        } else if (kind < 92) {
            x.split(range, KEYS[random.nextInt(KEYS.length)]);
        } else if (kind < 95) {
            mergeSome(range);
        } else if (kind < 96) {
            x.fall(host);
        } else if (kind < 99) {
            riseSome();
        } else {
            x.learn(random.nextInt(2));
        }
    }

    /** One that is not ANSWERED, if there is one. */
    private void askAgain() {
        int caller = random.nextInt(2);
        int count = random.nextInt(60);
        for (int i = 0; i < 60 && x.answer(caller, count, 0) != 0; i++) {
            count = (count + 1) % 60;
        }
        x.again(caller, count);
    }

    /** A RANGE that THE BOOK has. */
    private int someRange() {
        int range = random.nextInt(x.status(1));
        for (int i = 0; i < 40 && x.range(range, 0) == Check.NONE; i++) {
            range = (range + 1) % x.status(1);
        }
        return range;
    }

    /** With a neighbour, or what else it may be. */
    private void mergeSome(int range) {
        int other = someRange();
        for (int r = 0; r < x.status(1); r++) {
            if (x.range(r, 0) != Check.NONE && x.range(r, 0) == x.range(range, 1)) {
                other = r;
            }
        }
        if (random.nextBoolean()) {
            x.merge(range, other);
        } else {
            x.merge(other, range);
        }
    }

    private void riseSome() {
        for (int host = 0; host < 6; host++) {
            if (random.nextInt(3) > 0) {
                x.rise(host);
            }
        }
    }

    /** Now and then any, else one of the latest that never came. */
    private int someLetter() {
        int sent = x.status(3);
        int from = random.nextInt(Math.max(1, sent));
        if (random.nextInt(5) == 0) {
            return from;
        }
        for (int l = Math.max(0, sent - 1 - random.nextInt(30)); l < sent; l++) {
            if (x.letter(l, 6) == 0) {
                return l;
            }
        }
        return from;
    }

    private void ask() {
        int caller = random.nextInt(2);
        int kind = random.nextInt(5);
        int key = KEYS[random.nextInt(KEYS.length)];
        long v = random.nextInt(3);
        long w = random.nextInt(3);
        int count = x.call(caller, kind, key, v, w);
        if (count >= 0) {
            asked[caller][count] = new long[] {kind, key, v, w};
        }
    }

    /** Does in the map what was DONE since. */
    private void follow() {
        for (; seen < x.status(4); seen++) {
            int caller = x.order(seen, 0);
            int count = x.order(seen, 1);
            Check.holds("run " + run + ": " + caller + "'s " + count + " is done once", !answers.containsKey(caller * 60 + count));
            answers.put(caller * 60 + count, perform(asked[caller][count]));
        }
        for (int caller = 0; caller < 2; caller++) {
            for (int count = 0; x.answer(caller, count, 0) != Check.NONE; count++) {
                if (x.answer(caller, count, 0) == 1) {
                    long[] want = answers.get(caller * 60 + count);
                    Check.holds("run " + run + ": ANSWERED is DONE", want != null);
                    Check.due("run " + run + ": value of " + caller + "'s " + count, x.answer(caller, count, 1), want[0]);
                    Check.due("run " + run + ": SIGN of " + caller + "'s " + count, x.answer(caller, count, 2), want[1]);
                }
            }
        }
    }

    private long[] perform(long[] ask) {
        int key = (int) ask[1];
        Long was = rows.get(key);
        long value = was == null ? 0 : was;
        long sign = was == null ? 0 : 1;
        switch ((int) ask[0]) {
            case 1:
                rows.put(key, ask[2]);
                break;
            case 2:
                rows.remove(key);
                break;
            case 3:
                value += ask[2];
                rows.put(key, value);
                break;
            case 4:
                sign = was != null && was == ask[2] ? 1 : 0;
                if (sign == 1) {
                    rows.put(key, ask[3]);
                }
                break;
            default:
                break;
        }
        return new long[] {value, sign};
    }

    /** THE BOOK's and a COPY's SPANS are all KEYS, once; one HOST at most serves a KEY, and it has the map's ROW. */
    private void look() {
        for (int key : KEYS) {
            int pages = 0;
            int serving = 0;
            for (int r = 0; r < x.status(1); r++) {
                if (x.range(r, 0) != Check.NONE && key >= x.range(r, 0) && key < x.range(r, 1)) {
                    pages++;
                }
                for (int host = 0; host < 6; host++) {
                    int state = x.at(host, r, 0);
                    if ((state == 1 || state == 2) && key >= x.at(host, r, 3) && key < x.at(host, r, 4)) {
                        serving++;
                        Check.due("run " + run + ": row " + key, x.row(host, r, key), rows.getOrDefault(key, 0L));
                    }
                }
            }
            Check.due("run " + run + ": RANGES in THE BOOK with " + key, pages, 1);
            Check.holds("run " + run + ": HOSTS that serve " + key, serving <= 1);
            for (int caller = 0; caller < 2; caller++) {
                Check.holds("run " + run + ": COPY's LOW", x.copy(caller, key, 3) >= 0 && x.copy(caller, key, 3) <= key);
                Check.holds("run " + run + ": COPY's HIGH", x.copy(caller, key, 4) > key && x.copy(caller, key, 4) <= 10000);
            }
        }
    }

    /** With all HOSTS UP and no LETTER lost every MOVE comes to its end, and every CALL is ANSWERED that may be. */
    private void settle() {
        for (int host = 0; host < 6; host++) {
            if (x.status(5) < 6) {
                x.rise(host);
            }
        }
        for (int round = 0; round < 60 && x.status(3) < 1100 && !allFree(); round++) {
            int first = x.status(3);
            for (int host = 0; host < 6; host++) {
                x.step(host);
            }
            for (int l = first; l < x.status(3) && x.status(3) < 1150; l++) {
                x.deliver(l);
            }
        }
        if (x.status(3) < 1100) {
            Check.holds("run " + run + ": all are FREE in the end", allFree());
        }
    }

    private boolean allFree() {
        for (int r = 0; r < x.status(1); r++) {
            if (x.range(r, 6) == 0) {
                return false;
            }
        }
        return true;
    }
}
