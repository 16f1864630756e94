/** THE BOOK's calls and questions at their edges: move, undo, split, merge, range, at, letter, plan. */
public final class BookEdgeTest {
    private static final int NONE = Check.NONE;

    public static void main(String[] args) {
        callerAndLearn();
        moveAndUndo();
        splitEpochs();
        mergeEpochs();
        atByState();
        letterByKind();
        weights();
        planOfHosts();
        planOfRanges();
        statusCounts();
        Check.end("BookEdgeTest");
    }

    private static void callerAndLearn() {
        Check.test("2 caller: its COPY is as THE BOOK, which a MOVE under way does not change", () -> {
            RangeHouse x = Houses.plainMove(Houses.TOOK);
            x.caller();
            Check.copyIs(x, 0, 0, 0, 1, 0, 0, 10000);
        });
        Check.test("2 caller: its COPY is as THE BOOK behind a DONE, before the OPEN comes", () -> {
            RangeHouse x = Houses.plainMove(Houses.DONE);
            x.caller();
            Check.copyIs(x, 0, 9999, 0, 2, 1, 0, 10000);
        });
        Check.test("2 caller: its COPY is as THE BOOK behind an undo, before the UNDO comes", () -> {
            RangeHouse x = Houses.plainUndo(0);
            x.caller();
            Check.copyIs(x, 0, 5, 0, 3, 0, 0, 10000);
        });
        Check.test("6 learn: one RANGE; two; one again", () -> {
            RangeHouse x = Houses.withCallers(1);
            Check.due("learn", x.learn(0), 1);
            x.split(0, 1);
            Check.due("learn", x.learn(0), 2);
            x.merge(1, 0);
            Check.due("learn", x.learn(0), 1);
            Check.copyIs(x, 0, 0, 1, 3, 0, 0, 10000);
        });
        Check.test("6 learn: the other CALLER's COPY stays", () -> {
            RangeHouse x = Houses.withCallers(2);
            x.split(0, 100);
            x.learn(1);
            Check.due("7 EPOCH of 0", x.copy(0, 5, 1), 1);
            Check.due("7 EPOCH of 1", x.copy(1, 5, 1), 2);
        });
        Check.test("6 learn: with other HOSTS DOWN", () -> {
            RangeHouse x = Houses.withCallers(1);
            for (int host = 1; host < 6; host++) {
                x.fall(host);
            }
            Check.due("learn", x.learn(0), 1);
            Check.due("2 caller", x.caller(), 1);
        });
    }

    private static void moveAndUndo() {
        Check.test("8 move: its EPOCH is 1 more than the RANGE's; THE BOOK's stays", () -> {
            RangeHouse x = new RangeHouse();
            Check.due("move", x.move(0, 5), 2);
            Check.rangeIs(x, 0, 0, 10000, 1, 0, 5, 0, 0);
        });
        Check.test("8 move: to a HOST that is DOWN", () -> {
            RangeHouse x = Houses.fallen(new RangeHouse(), 5);
            Check.due("move", x.move(0, 5), 2);
            Check.letterIs(x, 0, 3, 0, 0, 0, 2, NONE, NONE, NONE, NONE);
        });
        Check.test("8 move: from a HOME that is DOWN", () -> {
            RangeHouse x = Houses.fallen(Houses.plainMove(Houses.GONE), 1);
            Check.due("move", x.move(0, 2), 3);
            Check.letterIs(x, 9, 3, 1, 0, 0, 3, NONE, NONE, NONE, NONE);
        });
        Check.test("9 undo: F is 2 more than the RANGE's EPOCH was, and THE BOOK's at once", () -> {
            RangeHouse x = Houses.plainMove(-1);
            Check.due("undo", x.undo(0), 3);
            Check.rangeIs(x, 0, 0, 10000, 3, 0, NONE, 12, 0);
            Check.letterIs(x, 1, 11, 0, 0, 0, 2, NONE, NONE, NONE, NONE);
            Check.letterIs(x, 2, 13, 1, 0, 0, 2, NONE, NONE, NONE, NONE);
        });
        Check.test("9 undo: at the last moment, behind the DONE's sending", () -> {
            RangeHouse x = Houses.plainMove(Houses.TOOK);
            Check.due("undo", x.undo(0), 3);
            Check.due("24 over", x.status(6), 0);
            Check.due("24 undone", x.status(7), 1);
        });
        Check.test("9 undo: with giver and taker DOWN", () -> {
            RangeHouse x = Houses.plainMove(Houses.GONE);
            x.move(0, 2);
            x.fall(1);
            x.fall(2);
            Check.due("undo", x.undo(0), 4);
        });
        Check.test("8 move: behind an undo the EPOCH is 1 more than F", () -> {
            RangeHouse x = Houses.plainUndo(Houses.DROPPED);
            Check.due("move", x.move(0, 1), 4);
        });
    }

    private static void splitEpochs() {
        Check.test("10 split: both have EPOCHS 1 more, at THE BOOK and at the HOME at once", () -> {
            RangeHouse x = Houses.plainMove(Houses.GONE);
            Check.due("split", x.split(0, 5000), 1);
            Check.rangeIs(x, 0, 0, 5000, 3, 1, NONE, 0, 1);
            Check.rangeIs(x, 1, 5000, 10000, 3, 1, NONE, 0, 1);
            Check.atIs(x, 1, 0, 1, 3, 0, 0, 5000, NONE, NONE, NONE, 0);
            Check.atIs(x, 1, 1, 1, 3, 0, 5000, 10000, NONE, NONE, NONE, 0);
            Check.due("24 no LETTER", x.status(3), 9);
        });
        Check.test("10 split: the ROW of the KEY goes to the new RANGE, that below it stays", () -> {
            RangeHouse x = Check.withRows(499, 500, 501);
            x.split(0, 500);
            Check.due("19 ROWS of 0", x.at(0, 0, 2), 1);
            Check.due("19 ROWS of 1", x.at(0, 1, 2), 2);
            Check.due("20 row of 499", x.row(0, 0, 499), 500);
            Check.due("20 row of 500", x.row(0, 1, 500), 501);
            Check.due("20 row of 501", x.row(0, 1, 501), 502);
        });
        Check.test("10 split: ROWS that were written from the greatest KEY down", () -> {
            RangeHouse x = Check.withRows(9999, 501, 499, 0, 500);
            x.split(0, 500);
            Check.due("19 ROWS of 0", x.at(0, 0, 2), 2);
            Check.due("19 ROWS of 1", x.at(0, 1, 2), 3);
            int[] keys = {0, 499, 500, 501, 9999};
            for (int key : keys) {
                Check.due("20 row in 0", x.row(0, 0, key), key < 500 ? key + 1 : 0);
                Check.due("20 row in 1", x.row(0, 1, key), key < 500 ? 0 : key + 1);
            }
        });
        Check.test("10 split: all ROWS stay, or all go", () -> {
            RangeHouse x = Check.withRows(20, 10);
            x.split(0, 21);
            Check.due("19 ROWS of 0 and 1", x.at(0, 0, 2) * 10 + x.at(0, 1, 2), 20);
            x.split(0, 10);
            Check.due("19 ROWS of 0 and 2", x.at(0, 0, 2) * 10 + x.at(0, 2, 2), 2);
        });
        Check.test("10 split: a RANGE of two KEYS, and no more", () -> {
            RangeHouse x = new RangeHouse();
            x.split(0, 2);
            Check.due("split", x.split(0, 1), 2);
            Check.due("split", x.split(0, 1), -3);
            Check.due("split", x.split(2, 1), -3);
            Check.due("split", x.split(2, 2), -3);
        });
    }

    private static void mergeEpochs() {
        Check.test("11 merge: EPOCH 1 more than the greater one, which is the first one's", () -> {
            RangeHouse x = Houses.withRanges(2);
            x.split(1, 500);
            Check.due("18 EPOCHS", x.range(0, 2) * 10 + x.range(1, 2), 23);
            Check.due("merge", x.merge(1, 0), 4);
        });
        Check.test("11 merge: EPOCH 1 more than the greater one, which is the second one's", () -> {
            RangeHouse x = Houses.withRanges(2);
            x.split(1, 500);
            Check.due("merge", x.merge(0, 1), 4);
            Check.rangeIs(x, 0, 0, 500, 4, 0, NONE, 0, 1);
            Check.atIs(x, 0, 0, 1, 4, 0, 0, 500, NONE, NONE, NONE, 0);
        });
        Check.test("11 merge: EPOCH 1 more than both, which are the same", () ->
            Check.due("merge", Houses.withRanges(2).merge(0, 1), 3));
        Check.test("11 merge: the first is the lower one", () -> {
            RangeHouse x = Houses.withRanges(3);
            x.merge(0, 1);
            Check.rangeIs(x, 0, 0, 200, 4, 0, NONE, 0, 1);
            Check.due("18 the other is no more", x.range(1, 0), NONE);
            Check.atIsNothing(x, 0, 1);
        });
        Check.test("11 merge: the first is the upper one", () -> {
            RangeHouse x = Houses.withRanges(3);
            x.merge(1, 0);
            Check.rangeIs(x, 1, 0, 200, 4, 0, NONE, 0, 1);
            Check.due("18 the other is no more", x.range(0, 0), NONE);
            Check.atIsNothing(x, 0, 0);
        });
        Check.test("11 merge: neighbours that met by another merge", () -> {
            RangeHouse x = Houses.withRanges(4);
            Check.due("no neighbours", x.merge(0, 2), -5);
            x.merge(1, 2);
            Check.due("neighbours", x.merge(0, 1), 6);
            Check.due("neighbours", x.merge(0, 3), 7);
            Check.rangeIs(x, 0, 0, 10000, 7, 0, NONE, 0, 1);
        });
        Check.test("11 merge: at a HOME that is not HOST 0, others DOWN", () -> {
            RangeHouse x = Houses.withRanges(2);
            Check.moveWholly(x, 0, 3);
            Check.moveWholly(x, 1, 3);
            x.fall(1);
            x.fall(5);
            Check.due("merge", x.merge(0, 1), 4);
            Check.due("19 at", x.at(3, 0, 4), 10000);
        });
    }

    private static void atByState() {
        Check.test("19 at: NOTHING has 0 alone", () -> Check.atIsNothing(new RangeHouse(), 1, 0));
        Check.test("19 at: WHOLE has no ATTEMPT, PART, KEYS to be sent", () ->
            Check.atIs(Check.withRows(5), 0, 0, 1, 1, 1, 0, 10000, NONE, NONE, NONE, 1));
        Check.test("19 at: GIVING has all", () -> Check.atIs(Houses.plainMove(Houses.BEGIN), 0, 0, 2, 1, 0, 0, 10000, 1, 0, 0, 0));
        Check.test("19 at: CLOSED has no KEYS to be sent", () ->
            Check.atIs(Houses.plainMove(Houses.BEGIN_AGAIN), 0, 0, 3, 1, 0, 0, 10000, 1, 0, NONE, 0));
        Check.test("19 at: TAKING has ATTEMPT and the next PART, no KEYS to be sent", () -> {
            RangeHouse x = Check.withRows(5);
            x.move(0, 1);
            x.deliver(2);
            x.step(0);
            x.deliver(4);
            Check.atIs(x, 1, 0, 4, 2, 1, 0, 10000, 1, 1, NONE, 0);
        });
        Check.test("19 at: READY has no ATTEMPT, PART, KEYS to be sent", () ->
            Check.atIs(Houses.plainMove(Houses.END), 1, 0, 5, 2, 0, 0, 10000, NONE, NONE, NONE, 0));
        Check.test("19 at: a number that is made is NOTHING at other HOSTS", () -> {
            RangeHouse x = Houses.withRanges(2);
            for (int host = 1; host < 6; host++) {
                Check.atIsNothing(x, host, 1);
            }
        });
    }

    private static void letterByKind() {
        Check.test("17 letter: of CALL, ANSWER and an OLD what they have not is NONE", () -> {
            RangeHouse x = Houses.withCalls(1);
            x.deliver(0);
            x.split(0, 100);
            x.call(0, 0, 5, 0, 0);
            x.deliver(2);
            Check.letterIs(x, 0, 0, 0, 0, 0, 1, 0, NONE, NONE, NONE);
            Check.letterIs(x, 1, 1, 0, 0, NONE, NONE, 0, NONE, NONE, NONE);
            Check.letterIs(x, 3, 2, 0, 0, 0, 2, 1, NONE, NONE, NONE);
        });
        Check.test("17 letter: of an OLD with nothing RANGE and EPOCH are NONE, its count is not", () -> {
            RangeHouse x = Houses.plainMove(Houses.BEGIN_AGAIN);
            x.caller();
            x.call(0, 0, 5, 0, 0);
            x.deliver(3);
            Check.letterIs(x, 4, 2, 0, 0, NONE, NONE, 0, NONE, NONE, NONE);
        });
        Check.test("17 letter: of all KINDS of a MOVE", () -> {
            RangeHouse x = Houses.plainMove(Houses.GONE);
            Check.letterIs(x, Houses.BEGIN, 3, 0, 0, 0, 2, NONE, NONE, NONE, NONE);
            Check.letterIs(x, Houses.END, 4, 1, 0, 0, 2, NONE, 1, 0, -1);
            Check.letterIs(x, Houses.TOOK, 5, 0, 1, 0, 2, NONE, 1, 0, NONE);
            Check.letterIs(x, Houses.DONE, 6, 0, 0, 0, 2, NONE, NONE, NONE, NONE);
            Check.letterIs(x, Houses.OPEN, 7, 1, 0, 0, 2, NONE, NONE, NONE, NONE);
            Check.letterIs(x, Houses.OPENED, 8, 0, 1, 0, 2, NONE, NONE, NONE, NONE);
            Check.letterIs(x, Houses.GO, 9, 0, 0, 0, 2, NONE, NONE, NONE, NONE);
            Check.letterIs(x, Houses.GONE, 10, 0, 0, 0, 2, NONE, NONE, NONE, NONE);
        });
        Check.test("17 letter: of all KINDS of an undo: EPOCH is E, not F", () -> {
            RangeHouse x = Houses.plainUndo(Houses.DROPPED);
            Check.letterIs(x, Houses.UNDO, 11, 0, 0, 0, 2, NONE, NONE, NONE, NONE);
            Check.letterIs(x, Houses.UNDONE, 12, 0, 0, 0, 2, NONE, NONE, NONE, NONE);
            Check.letterIs(x, Houses.DROP, 13, 1, 0, 0, 2, NONE, NONE, NONE, NONE);
            Check.letterIs(x, Houses.DROPPED, 14, 0, 1, 0, 2, NONE, NONE, NONE, NONE);
        });
    }

    /** RANGES of 100 KEYS each with so many ROWS, all at HOST 0; their CALLERS are 0 and 1. */
    private static RangeHouse withRows(int... rows) {
        RangeHouse x = Houses.withRanges(rows.length);
        x.caller();
        x.caller();
        int calls = 0;
        for (int r = 0; r < rows.length; r++) {
            for (int i = 0; i < rows[r]; i++, calls++) {
                x.call(calls / 60, 1, 100 * r + i, 1, 0);
                x.deliver(2 * calls);
            }
        }
        return x;
    }

    private static void weights() {
        Check.test("21 weight: WHOLE, GIVING and CLOSED weigh, TAKING and READY do not", () -> {
            RangeHouse x = withRows(1, 1);
            Check.due("WHOLE", x.weight(0), 2);
            x.move(0, 1);
            x.deliver(Check.last(x));
            Check.due("GIVING", x.weight(0), 2);
            x.step(0);
            x.deliver(Check.last(x));
            Check.due("TAKING", x.weight(1), 0);
            x.deliver(Check.last(x));
            x.step(0);
            Check.due("CLOSED", x.weight(0), 2);
            x.deliver(Check.last(x));
            Check.due("READY", x.weight(1), 0);
        });
        Check.test("21 weight: of a HOST that is DOWN", () -> Check.due("weight", Houses.fallen(withRows(3), 0).weight(0), 3));
        Check.test("21 weight: more than 60, of several RANGES", () -> Check.due("weight", withRows(40, 40).weight(0), 80));
    }

    private static void planOfHosts() {
        Check.test("22 plan: all HOSTS weigh 0", () -> Check.due("plan", Houses.withRanges(2).plan(), NONE));
        Check.test("22 plan: to the least number of those that weigh least", () -> Check.due("plan", withRows(1, 1).plan(), 1));
        Check.test("22 plan: from the least number of those that weigh most", () -> {
            RangeHouse x = withRows(1, 1, 1, 1);
            Check.moveWholly(x, 2, 3);
            Check.moveWholly(x, 3, 3);
            Check.due("plan", x.plan(), 1);
        });
        Check.test("22 plan: from HOST 5 to HOST 0", () -> {
            RangeHouse x = withRows(2, 1);
            Check.moveWholly(x, 0, 5);
            Check.moveWholly(x, 1, 5);
            Check.due("plan", x.plan(), 0);
        });
        Check.test("22 plan: HOST 5 weighs least", () -> {
            RangeHouse x = withRows(1, 1, 1, 1, 1, 1);
            for (int host = 1; host < 5; host++) {
                Check.moveWholly(x, host, host);
            }
            Check.due("21 weight of 0", x.weight(0), 2);
            Check.due("plan", x.plan(), 5);
            Check.moveWholly(x, 5, 5);
            Check.due("plan, all weigh the same", x.plan(), NONE);
        });
        Check.test("22 plan: TAKING and READY do not weigh: to the taker", () -> {
            RangeHouse x = withRows(2, 1, 3);
            x.move(0, 1);
            x.deliver(Check.last(x));
            x.step(0);
            x.deliver(Check.last(x));
            Check.due("plan", x.plan(), 21);
        });
        Check.test("22 plan: HOSTS that are DOWN count", () -> {
            RangeHouse x = withRows(1, 1);
            for (int host = 0; host < 6; host++) {
                x.fall(host);
            }
            Check.due("plan", x.plan(), 1);
        });
    }

    private static void planOfRanges() {
        Check.test("22 plan: the greater WEIGHT would be the same as now: NONE", () -> Check.due("plan", withRows(3).plan(), NONE));
        Check.test("22 plan: the greater WEIGHT would be 1 less", () -> Check.due("plan", withRows(4, 1).plan(), 1));
        Check.test("22 plan: the least greater WEIGHT, by what is left", () -> Check.due("plan", withRows(1, 3, 2, 4).plan(), 31));
        Check.test("22 plan: the least greater WEIGHT, by what is moved", () -> Check.due("plan", withRows(5, 3, 1).plan(), 1));
        Check.test("22 plan: of two that leave the same the least number", () -> Check.due("plan", withRows(0, 2, 2).plan(), 11));
        Check.test("22 plan: of two, one by what is left and one by what is moved, the least number", () ->
            Check.due("plan", withRows(3, 2).plan(), 1));
        Check.test("22 plan: a RANGE without ROWS is none", () -> Check.due("plan", withRows(0, 5, 0).plan(), NONE));
        Check.test("22 plan: a RANGE that is not FREE is none", () -> {
            RangeHouse x = withRows(2, 2);
            x.move(0, 3);
            Check.due("plan", x.plan(), 11);
            x.move(1, 3);
            Check.due("plan", x.plan(), NONE);
        });
        Check.test("22 plan: a RANGE that is FREE at another HOST, and left TAKING at this one, is none", () -> {
            RangeHouse x = withRows(3, 5);
            x.move(0, 1);
            int begin = Check.last(x);
            x.deliver(begin);
            x.step(0);
            x.undo(0);
            for (int l = begin + 3; l < begin + 7; l++) {
                x.deliver(l);
            }
            Check.moveWholly(x, 1, 1);
            x.deliver(begin + 2);
            Check.due("18 HOME and FREE", x.range(0, 3) * 10 + x.range(0, 6), 1);
            Check.due("19 TAKING, 3 ROWS", x.at(1, 0, 0) * 10 + x.at(1, 0, 2), 43);
            Check.due("21 weights", x.weight(0) * 10 + x.weight(1), 35);
            Check.due("plan", x.plan(), NONE);
        });
        Check.test("22 plan: RANGE 39, the last of 40", () -> {
            RangeHouse x = Houses.withRanges(40);
            x.caller();
            x.call(0, 1, 50, 1, 0);
            x.deliver(0);
            x.call(0, 1, 9998, 1, 0);
            x.deliver(2);
            x.call(0, 1, 9999, 1, 0);
            x.deliver(4);
            x.move(0, 1);
            Check.due("plan", x.plan(), 391);
        });
    }

    private static void statusCounts() {
        Check.test("24 status: HOSTS UP, from 6 to 0 and back", () -> {
            RangeHouse x = new RangeHouse();
            for (int host = 0; host < 6; host++) {
                Check.due("status(5)", x.status(5), 6 - host);
                x.fall(host);
            }
            Check.due("status(5)", x.status(5), 0);
            x.rise(3);
            Check.due("status(5)", x.status(5), 1);
        });
        Check.test("24 status: MOVES over, and undone", () -> {
            RangeHouse x = Houses.plainMove(Houses.TOOK);
            Check.due("status(6)", x.status(6), 0);
            x.deliver(Houses.DONE);
            Check.due("status(6)", x.status(6), 1);
            for (int l = Houses.OPEN; l <= Houses.GONE; l++) {
                x.deliver(l);
            }
            x.move(0, 2);
            x.undo(0);
            Check.due("status(6)", x.status(6), 1);
            Check.due("status(7)", x.status(7), 1);
        });
        Check.test("24 status: NONE and 0 are no REFUSALS", () -> {
            RangeHouse x = Houses.fallen(Houses.withCalls(1), 0);
            x.deliver(0);
            x.range(-1, 0);
            x.status(-1);
            x.row(-1, -1, -1);
            for (int what = 11; what <= 16; what++) {
                Check.due("status(" + what + ")", x.status(what), 0);
            }
        });
    }
}
