import java.util.HashSet;
import java.util.Set;

/** What the tests share: telling answers that are not due, and driving a house. */
final class Check {
    static final int NONE = RangeHouse.NONE;
    private static final Set<String> NAMES = new HashSet<>();
    private static String test = "";
    private static int asked = 0;
    private static int wrong = 0;

    private Check() {
    }

    /** A test of its own: its name says of which sentence of the document it is. */
    static void test(String name, Runnable body) {
        test = name + ": ";
        int before = asked;
        holds("a name that no other test has", NAMES.add(name));
        try {
            body.run();
        } catch (RuntimeException | Error e) {
            e.printStackTrace(System.out);
            holds("nothing is thrown", false);
        }
        holds("something is asked", asked > before + 1);
        test = "";
    }

    static void due(String what, long got, long want) {
        asked++;
        if (got != want) {
            wrong++;
            System.out.println(test + what + " answered " + got + ", due is " + want);
        }
    }

    static void holds(String what, boolean it) {
        due(what, it ? 1 : 0, 1);
    }

    static void end(String name) {
        String tests = NAMES.isEmpty() ? "" : NAMES.size() + " tests, ";
        System.out.println(name + ": " + tests + asked + " answers, " + wrong + " not as due");
        if (wrong != 0 || asked == 0) {
            System.exit(1);
        }
    }

    static int sent(RangeHouse x) {
        return x.status(3);
    }

    static int last(RangeHouse x) {
        return x.status(3) - 1;
    }

    /** A CALL that is sent, delivered and ANSWERED at once: its count. */
    static int done(RangeHouse x, int caller, int kind, int key, long v, long w) {
        int letter = sent(x);
        int count = x.call(caller, kind, key, v, w);
        x.deliver(letter);
        x.deliver(letter + 1);
        return count;
    }

    /** A house with one CALLER that has written 1 more than the KEY to each KEY. */
    static RangeHouse withRows(int... keys) {
        RangeHouse x = new RangeHouse();
        x.caller();
        for (int key : keys) {
            done(x, 0, 1, key, key + 1, 0);
        }
        return x;
    }

    /** Delivers each LETTER from one on that never was, and those that they send. */
    static void deliverFrom(RangeHouse x, int first) {
        for (int l = first; l < x.status(3); l++) {
            if (x.letter(l, 6) == 0 && x.letter(l, 5) == 0) {
                x.deliver(l);
            }
        }
    }

    /** A MOVE from its start until the RANGE is FREE at the HOST. */
    static void moveWholly(RangeHouse x, int range, int host) {
        int home = x.range(range, 3);
        int next = sent(x);
        x.move(range, host);
        for (int i = 0; i < 40 && x.range(range, 6) != 1; i++) {
            for (; next < sent(x); next++) {
                x.deliver(next);
            }
            if (x.range(range, 3) == home) {
                x.step(home);
            }
        }
        due("after moveWholly(" + range + ", " + host + ") HOME", x.range(range, 3), host);
        due("after moveWholly(" + range + ", " + host + ") FREE", x.range(range, 6), 1);
    }

    /** All that letter() tells of a LETTER, against KIND, to, from, RANGE, EPOCH, count, ATTEMPT, m, KEYS. */
    static void letterIs(RangeHouse x, int l, int... want) {
        int[] what = {0, 1, 2, 3, 4, 7, 8, 9, 10};
        holds("letterIs is asked of all", want.length == what.length);
        for (int i = 0; i < what.length && i < want.length; i++) {
            due("letter(" + l + ", " + what[i] + ")", x.letter(l, what[i]), want[i]);
        }
    }

    /** All that at() tells, from 0 to 8. */
    static void atIs(RangeHouse x, int host, int range, int... want) {
        holds("atIs is asked of all", want.length == 9);
        for (int i = 0; i < want.length; i++) {
            due("at(" + host + ", " + range + ", " + i + ")", x.at(host, range, i), want[i]);
        }
    }

    /** A RANGE that is NOTHING at a HOST has 0 alone. */
    static void atIsNothing(RangeHouse x, int host, int range) {
        atIs(x, host, range, 0, NONE, NONE, NONE, NONE, NONE, NONE, NONE, NONE);
    }

    /** An ANSWER that has come. */
    static void answerIs(RangeHouse x, int caller, int count, long value, int sign) {
        String call = "answer(" + caller + ", " + count + ", ";
        due(call + "0)", x.answer(caller, count, 0), 1);
        due(call + "1)", x.answer(caller, count, 1), value);
        due(call + "2)", x.answer(caller, count, 2), sign);
    }

    /** All that range() tells, from 0 to 6. */
    static void rangeIs(RangeHouse x, int range, int... want) {
        holds("rangeIs is asked of all", want.length == 7);
        for (int i = 0; i < want.length; i++) {
            due("range(" + range + ", " + i + ")", x.range(range, i), want[i]);
        }
    }

    /** All that copy() tells, from 0 to 4. */
    static void copyIs(RangeHouse x, int caller, int key, int... want) {
        holds("copyIs is asked of all", want.length == 5);
        for (int i = 0; i < want.length; i++) {
            due("copy(" + caller + ", " + key + ", " + i + ")", x.copy(caller, key, i), want[i]);
        }
    }

    /** Cuts RANGE 0 until there are 40. */
    static void cutAll(RangeHouse x) {
        for (int i = 1; i < 40; i++) {
            due("split(" + (i - 1) + ", " + 100 * i + ")", x.split(i - 1, 100 * i), i);
        }
    }
}
