/** Promises 10 and 11: split, merge. */
public final class SplitMergeTest {
    private static final int NONE = Check.NONE;

    public static void main(String[] args) {
        split();
        splitRefused();
        fortyRanges();
        merge();
        mergeOfTheUpper();
        mergeKeepsFour();
        mergeRefused();
        mergeOfSixtyRows();
        noFreeNoCut();
        Check.end("SplitMergeTest");
    }

    private static void split() {
        RangeHouse x = Check.withRows(0, 499, 500, 501, 9999);
        Check.due("10: split(0, 500)", x.split(0, 500), 1);
        Check.rangeIs(x, 0, 0, 500, 2, 0, NONE, 0, 1);
        Check.rangeIs(x, 1, 500, 10000, 2, 0, NONE, 0, 1);
        Check.atIs(x, 0, 0, 1, 2, 2, 0, 500, NONE, NONE, NONE, 4);
        Check.atIs(x, 0, 1, 1, 2, 3, 500, 10000, NONE, NONE, NONE, 4);
        Check.due("10: row(0, 0, 499)", x.row(0, 0, 499), 500);
        Check.due("10: row(0, 0, 500)", x.row(0, 0, 500), 0);
        Check.due("10: row(0, 1, 500)", x.row(0, 1, 500), 501);
        Check.due("10: row(0, 1, 9999)", x.row(0, 1, 9999), 10000);
        Check.due("10: weight", x.weight(0), 5);
        Check.due("10: no LETTER", x.status(3), 10);
        x.learn(0);
        Check.due("10: again", x.again(0, 4), 10);
        x.deliver(10);
        Check.letterIs(x, 11, 1, 0, 0, NONE, NONE, 4, NONE, NONE, NONE);
        Check.due("10: the new RANGE has the KEPT ANSWERS", x.status(4), 5);
        x.again(0, 1);
        x.deliver(12);
        Check.letterIs(x, 13, 1, 0, 0, NONE, NONE, 1, NONE, NONE, NONE);
        Check.due("10: and so has the old one", x.status(4), 5);
        Check.done(x, 0, 2, 0, 0, 0);
        Check.due("10: KEPT ANSWERS apart", x.at(0, 1, 8), 4);
        Check.due("10: a key above LOW by 1", x.split(0, 1), 2);
        Check.due("10: a key below HIGH by 1", x.split(0, 1), -3);
        Check.due("10: a key below HIGH by 1", x.split(1, 9999), 3);
        Check.rangeIs(x, 3, 9999, 10000, 3, 0, NONE, 0, 1);
        Check.due("10: status(0)", x.status(0), 4);
        Check.due("10: status(1)", x.status(1), 4);
    }

    private static void splitRefused() {
        RangeHouse x = new RangeHouse();
        Check.due("10: no RANGE", x.split(1, 5), -1);
        Check.due("10: no RANGE", x.split(-1, 5), -1);
        Check.due("10: no RANGE", x.split(40, 5), -1);
        x.split(0, 100);
        Check.due("10: LOW", x.split(1, 100), -3);
        Check.due("10: HIGH", x.split(0, 100), -3);
        Check.due("10: below", x.split(1, 99), -3);
        Check.due("10: KEY -1", x.split(0, -1), -3);
        Check.due("10: KEY 10000", x.split(1, 10000), -3);
        Check.moveWholly(x, 1, 4);
        x.fall(4);
        Check.due("10: the HOME is DOWN", x.split(1, 500), -4);
        Check.due("10: BEYOND before DOWN", x.split(1, 100), -3);
        x.rise(4);
        x.fall(0);
        Check.due("10: HOST 0 is DOWN", x.split(1, 500), -4);
        x.rise(0);
        x.move(1, 2);
        Check.due("10: not FREE", x.split(1, 500), -5);
        x.fall(4);
        Check.due("10: DOWN before STATE", x.split(1, 500), -4);
        Check.due("10: nothing was made", x.status(1), 2);
    }

    private static void fortyRanges() {
        RangeHouse x = new RangeHouse();
        Check.cutAll(x);
        Check.due("10: a 41st RANGE", x.split(39, 9000), -6);
        Check.due("11: merge(0, 1)", x.merge(0, 1), 4);
        Check.due("10: numbers are never given again", x.split(39, 9000), -6);
        Check.due("10: status(0)", x.status(0), 39);
        Check.due("10: status(1)", x.status(1), 40);
        x.move(39, 1);
        Check.due("10: STATE before ROOM", x.split(39, 9000), -5);
        x.caller();
        Check.due("6: learn of 39", x.learn(0), 39);
    }

    private static void merge() {
        RangeHouse x = Check.withRows(10, 20, 30);
        x.split(0, 20);
        x.split(1, 30);
        Check.due("11: merge(0, 1)", x.merge(0, 1), 4);
        Check.rangeIs(x, 0, 0, 30, 4, 0, NONE, 0, 1);
        Check.atIs(x, 0, 0, 1, 4, 2, 0, 30, NONE, NONE, NONE, 3);
        Check.due("11: the other is no more", x.range(1, 0), NONE);
        Check.atIsNothing(x, 0, 1);
        Check.due("11: row of the other", x.row(0, 1, 20), 0);
        Check.due("11: row", x.row(0, 0, 20), 21);
        Check.due("11: the other is no more", x.merge(0, 1), -1);
        Check.due("11: the other is no more", x.split(1, 25), -1);
        Check.due("11: the other is no more", x.move(1, 2), -1);
        Check.due("11: the other is no more", x.undo(1), -1);
        Check.due("11: status(0)", x.status(0), 2);
        Check.due("11: status(1)", x.status(1), 3);
        Check.due("11: weight", x.weight(0), 3);
    }

    private static void mergeOfTheUpper() {
        RangeHouse x = Check.withRows(10, 20);
        x.split(0, 20);
        x.split(0, 15);
        Check.due("11: merge(1, 2)", x.merge(1, 2), 4);
        Check.rangeIs(x, 1, 15, 10000, 4, 0, NONE, 0, 1);
        Check.due("11: merge(1, 0)", x.merge(1, 0), 5);
        Check.rangeIs(x, 1, 0, 10000, 5, 0, NONE, 0, 1);
        Check.atIs(x, 0, 1, 1, 5, 2, 0, 10000, NONE, NONE, NONE, 2);
        Check.atIsNothing(x, 0, 0);
        Check.due("11: row", x.row(0, 1, 10), 11);
        Check.due("11: row", x.row(0, 1, 20), 21);
        x.learn(0);
        Check.answerIs(x, 0, Check.done(x, 0, 0, 10, 0, 0), 11, 1);
        Check.answerIs(x, 0, Check.done(x, 0, 0, 20, 0, 0), 21, 1);
    }

    private static void mergeKeepsFour() {
        RangeHouse x = new RangeHouse();
        x.caller();
        x.caller();
        Check.done(x, 0, 3, 10, 1, 0);
        Check.done(x, 1, 3, 10, 1, 0);
        x.split(0, 500);
        x.learn(0);
        x.learn(1);
        for (int i = 1; i < 7; i++) {
            Check.done(x, 0, 3, i % 2 == 0 ? 10 : 600, 1, 0);
        }
        Check.done(x, 1, 3, 600, 1, 0);
        Check.due("of 0: 0 2 4 6 and 0", x.at(0, 0, 8), 5);
        Check.due("of 1: 0 1 3 5 and 0 1", x.at(0, 1, 8), 6);
        x.merge(0, 1);
        Check.due("3 4 5 6 and 0 1", x.at(0, 0, 8), 6);
        x.learn(0);
        x.learn(1);
        int doneBefore = x.status(4);
        for (int i = 0; i < 7; i++) {
            int sent = x.again(0, i) + 1;
            x.deliver(sent - 1);
            Check.due("11: an ANSWER of count " + i, x.status(3), i < 3 ? sent : sent + 1);
        }
        for (int i = 0; i < 2; i++) {
            int sent = x.again(1, i) + 1;
            x.deliver(sent - 1);
            Check.due("11: an ANSWER of count " + i, x.status(3), sent + 1);
        }
        Check.due("11: none is DONE twice", x.status(4), doneBefore);
        Check.due("11: row", x.row(0, 0, 10), 5);
        Check.due("11: row", x.row(0, 0, 600), 4);
    }

    private static void mergeRefused() {
        RangeHouse x = new RangeHouse();
        x.split(0, 100);
        x.split(1, 200);
        Check.due("11: no RANGE", x.merge(0, 3), -1);
        Check.due("11: no RANGE", x.merge(3, 0), -1);
        Check.due("11: no RANGE", x.merge(-1, 0), -1);
        Check.due("11: no neighbours", x.merge(0, 2), -5);
        Check.due("11: no neighbours", x.merge(2, 0), -5);
        Check.due("11: no neighbours", x.merge(1, 1), -5);
        Check.moveWholly(x, 1, 3);
        Check.due("11: two HOMES", x.merge(0, 1), -5);
        Check.due("11: two HOMES", x.merge(1, 0), -5);
        x.fall(3);
        Check.due("11: the first one's HOME is DOWN", x.merge(1, 0), -4);
        Check.due("11: the second one's HOME is DOWN", x.merge(0, 1), -4);
        Check.due("11: no neighbours, both HOMES are UP", x.merge(0, 2), -5);
        Check.moveWholly(x, 2, 4);
        x.fall(4);
        Check.due("11: both HOMES are DOWN", x.merge(1, 2), -4);
        Check.due("11: no neighbours, the second one's HOME is DOWN", x.merge(0, 2), -4);
        Check.due("11: no neighbours, the first one's HOME is DOWN", x.merge(2, 0), -4);
        Check.due("11: NOBODY before DOWN", x.merge(5, 2), -1);
        Check.due("11: DOWN is counted", x.status(14), 5);
        Check.due("11: STATE is counted", x.status(15), 6);
        x.rise(3);
        x.rise(4);
        Check.moveWholly(x, 2, 3);
        x.fall(3);
        Check.due("11: the HOME is DOWN", x.merge(1, 2), -4);
        x.rise(3);
        x.fall(0);
        Check.due("11: HOST 0 is DOWN", x.merge(1, 2), -4);
        Check.due("11: NOBODY before DOWN", x.merge(1, 3), -1);
        x.rise(0);
        x.move(2, 4);
        Check.due("11: not FREE", x.merge(1, 2), -5);
        Check.due("11: not FREE", x.merge(2, 1), -5);
        x.fall(3);
        Check.due("11: DOWN before STATE", x.merge(2, 1), -4);
        Check.due("11: nothing changed", x.status(0), 3);
    }

    private static void mergeOfSixtyRows() {
        RangeHouse x = new RangeHouse();
        x.caller();
        x.caller();
        x.split(0, 30);
        x.learn(0);
        x.learn(1);
        for (int i = 0; i < 60; i++) {
            Check.done(x, 0, 1, i, i, 0);
        }
        Check.done(x, 1, 1, 60, 60, 0);
        Check.due("30 ROWS", x.at(0, 0, 2), 30);
        Check.due("31 ROWS", x.at(0, 1, 2), 31);
        Check.due("11: 61 ROWS", x.merge(0, 1), -5);
        Check.due("11: 61 ROWS", x.merge(1, 0), -5);
        Check.due("11: nothing changed", x.at(0, 0, 1), 2);
        Check.done(x, 1, 2, 60, 0, 0);
        Check.due("11: 60 ROWS", x.merge(1, 0), 3);
        Check.due("11: 60 ROWS", x.at(0, 1, 2), 60);
        for (int i = 0; i < 60; i++) {
            Check.due("11: row(0, 1, " + i + ")", x.row(0, 1, i), i);
        }
    }

    private static void noFreeNoCut() {
        RangeHouse x = new RangeHouse();
        x.split(0, 100);
        x.move(0, 1);
        x.undo(0);
        Check.due("10: UNDO and DROP are owed", x.split(0, 50), -5);
        Check.due("11: UNDO and DROP are owed", x.merge(0, 1), -5);
        x.deliver(1);
        x.deliver(3);
        Check.due("10: DROP is owed", x.split(0, 50), -5);
        x.deliver(2);
        x.deliver(4);
        Check.due("11: nothing is owed", x.merge(0, 1), 5);
    }
}
