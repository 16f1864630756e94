/** Sums that go round in a long, and the least and the greatest values, wherever values are kept or sent. */
public final class RoundTest {
    private static final long MOST = Long.MAX_VALUE;
    private static final long LEAST = Long.MIN_VALUE;
    /** Values that an int, a REFUSAL or NONE could be taken for, and the ends of a long. */
    private static final long[] VALUES = {0, -1, -6, Check.NONE, Integer.MAX_VALUE + 1L, Integer.MIN_VALUE - 1L,
        0x100000000L, MOST, LEAST};

    public static void main(String[] args) {
        sums();
        valuesOfCalls();
        valuesThatAreKept();
        valuesThatGoAlong();
        Check.end("RoundTest");
    }

    private static void sum(String name, long there, long v, long then) {
        Check.test("ADD: " + name, () -> {
            RangeHouse x = Houses.withCallers(1);
            Check.done(x, 0, 1, 9, there, 0);
            Check.answerIs(x, 0, Check.done(x, 0, 3, 9, v, 0), then, 1);
            Check.due("20 row", x.row(0, 0, 9), then);
            Check.due("19 ROWS", x.at(0, 0, 2), 1);
        });
    }

    private static void sums() {
        sum("the greatest and 1 is the least", MOST, 1, LEAST);
        sum("the least and -1 is the greatest", LEAST, -1, MOST);
        sum("the greatest twice is -2", MOST, MOST, -2);
        sum("the least twice is 0, and the ROW stays", LEAST, LEAST, 0);
        sum("the greatest and the least is -1", MOST, LEAST, -1);
        sum("beyond an int", Integer.MAX_VALUE, 1, 2147483648L);
        sum("beyond an int, below", Integer.MIN_VALUE, -1, -2147483649L);
        sum("to 0, and the ROW stays", 5, -5, 0);
        sum("0 to a ROW", 5, 0, 5);
        Check.test("ADD: the least to no ROW", () -> {
            RangeHouse x = Houses.withCallers(1);
            Check.answerIs(x, 0, Check.done(x, 0, 3, 9, LEAST, 0), LEAST, 0);
            Check.answerIs(x, 0, Check.done(x, 0, 3, 9, LEAST, 0), 0, 1);
        });
        Check.test("ADD: 0 to no ROW makes a ROW of 0", () -> {
            RangeHouse x = Houses.withCallers(1);
            Check.answerIs(x, 0, Check.done(x, 0, 3, 9, 0, 0), 0, 0);
            Check.due("19 ROWS", x.at(0, 0, 2), 1);
            Check.answerIs(x, 0, Check.done(x, 0, 0, 9, 0, 0), 0, 1);
        });
    }

    private static void valuesOfCalls() {
        for (long value : VALUES) {
            Check.test("the value " + value + " is written, read, swapped, struck", () -> {
                RangeHouse x = Houses.withCallers(1);
                Check.answerIs(x, 0, Check.done(x, 0, 1, 9, value, 3), 0, 0);
                Check.due("20 row", x.row(0, 0, 9), value);
                Check.answerIs(x, 0, Check.done(x, 0, 0, 9, 4, 5), value, 1);
                Check.answerIs(x, 0, Check.done(x, 0, 4, 9, value ^ 0x100000000L, 8), value, 0);
                Check.answerIs(x, 0, Check.done(x, 0, 4, 9, value + 1, 8), value, 0);
                Check.answerIs(x, 0, Check.done(x, 0, 4, 9, value, ~value), value, 1);
                Check.due("20 row", x.row(0, 0, 9), ~value);
                Check.answerIs(x, 0, Check.done(x, 0, 4, 9, ~value, value), ~value, 1);
                Check.answerIs(x, 0, Check.done(x, 0, 2, 9, 0, 0), value, 1);
                Check.due("19 ROWS", x.at(0, 0, 2), 0);
            });
        }
    }

    private static void valuesThatAreKept() {
        for (long value : VALUES) {
            Check.test("the value " + value + " is in an ANSWER that is KEPT", () -> {
                RangeHouse x = Houses.withCallers(1);
                Check.done(x, 0, 1, 9, value, 0);
                x.call(0, 2, 9, 0, 0);
                int strike = Check.last(x);
                x.deliver(strike);
                Check.done(x, 0, 1, 9, 77, 0);
                x.deliver(strike);
                x.deliver(Check.last(x));
                Check.answerIs(x, 0, 1, value, 1);
                Check.due("20 row", x.row(0, 0, 9), 77);
            });
        }
    }

    private static void valuesThatGoAlong() {
        Check.test("values go along with a split, a MOVE, a merge", () -> {
            RangeHouse x = Houses.withCallers(1);
            for (int i = 0; i < VALUES.length; i++) {
                Check.done(x, 0, 1, 10 * i, VALUES[i], 0);
            }
            x.split(0, 45);
            Check.moveWholly(x, 1, 4);
            Check.moveWholly(x, 0, 4);
            x.merge(1, 0);
            for (int i = 0; i < VALUES.length; i++) {
                Check.due("20 row " + 10 * i, x.row(4, 1, 10 * i), VALUES[i]);
            }
            Check.due("19 ROWS", x.at(4, 1, 2), VALUES.length);
        });
        Check.test("KEPT ANSWERS go along with a split, a MOVE, a merge", () -> {
            RangeHouse x = Houses.withCallers(1);
            x.call(0, 3, 9, MOST, 0);
            x.call(0, 3, 9, 1, 0);
            x.deliver(0);
            x.deliver(1);
            x.split(0, 9);
            Check.moveWholly(x, 1, 4);
            Check.moveWholly(x, 0, 4);
            x.merge(0, 1);
            x.learn(0);
            for (int count = 0; count < 2; count++) {
                x.deliver(x.again(0, count));
                x.deliver(Check.last(x));
            }
            Check.answerIs(x, 0, 0, MOST, 0);
            Check.answerIs(x, 0, 1, LEAST, 1);
            Check.due("24 DONE", x.status(4), 2);
        });
        Check.test("a ROW of 0 is a ROW: it goes along, weighs, and is swapped", () -> {
            RangeHouse x = Houses.withCallers(1);
            Check.done(x, 0, 1, 9, 0, 0);
            Check.moveWholly(x, 0, 4);
            Check.due("19 ROWS", x.at(4, 0, 2), 1);
            Check.due("21 weight", x.weight(4), 1);
            x.learn(0);
            Check.answerIs(x, 0, Check.done(x, 0, 4, 9, 0, 5), 0, 1);
            Check.due("20 row", x.row(4, 0, 9), 5);
        });
    }
}
