/** A STEP of a HOST, KEYS to be sent, FALLS, FREE: each clause at its edges. */
public final class StepEdgeTest {
    private static final int NONE = Check.NONE;

    public static void main(String[] args) {
        stepOfTheBook();
        stepOfGiving();
        keysWithoutRowsFirst();
        keysThatCallsChange();
        stepOfClosed();
        fall();
        free();
        Check.end("StepEdgeTest");
    }

    /** Two CALLERS, RANGE 0 with so many ROWS from 100 on, GIVING to HOST 1. */
    private static RangeHouse giving(int rows) {
        RangeHouse x = Houses.withRowsFrom100(rows);
        x.move(0, 1);
        x.deliver(Check.last(x));
        Check.due("19 GIVING", x.at(0, 0, 0), 2);
        return x;
    }

    private static void sends(RangeHouse x, int host, int... kinds) {
        int first = x.status(3);
        Check.due("12 step(" + host + ")", x.step(host), kinds.length);
        Check.due("24 LETTERS", x.status(3), first + kinds.length);
        for (int i = 0; i < kinds.length; i++) {
            Check.due("17 KIND of " + i, x.letter(first + i, 0), kinds[i]);
        }
    }

    private static void stepOfTheBook() {
        Check.test("12 step: a BEGIN of a MOVE that is under way, before its BEGIN comes", () -> sends(Houses.plainMove(-1), 0, 3));
        Check.test("12 step: a BEGIN of a MOVE that is under way, GIVING: and the END", () -> sends(Houses.plainMove(Houses.BEGIN), 0, 3, 4));
        Check.test("12 step: a BEGIN of a MOVE that is under way, CLOSED: and the END", () -> sends(Houses.plainMove(Houses.BEGIN_AGAIN), 0, 3, 4));
        Check.test("12 step: a BEGIN of a MOVE that is under way, the END was TOOK: and a DONE", () -> sends(Houses.plainMove(Houses.TOOK), 0, 3, 6));
        Check.test("12 step: OPEN and GO are owed, CLOSED by now: OPEN, GO, DONE", () -> sends(Houses.plainMove(Houses.DONE), 0, 7, 9, 6));
        Check.test("12 step: OPEN and GO are owed, NOTHING by now: OPEN, GO", () -> {
            RangeHouse x = Houses.plainMove(Houses.GO);
            sends(x, 0, 7, 9);
            Check.letterIs(x, 9, 7, 1, 0, 0, 2, NONE, NONE, NONE, NONE);
            Check.letterIs(x, 10, 9, 0, 0, 0, 2, NONE, NONE, NONE, NONE);
        });
        Check.test("12 step: GO alone is owed", () -> sends(Houses.plainMove(Houses.OPENED), 0, 9));
        Check.test("12 step: OPEN alone is owed", () -> {
            RangeHouse x = Houses.plainMove(Houses.GO);
            x.deliver(Houses.GONE);
            sends(x, 0, 7);
        });
        Check.test("12 step: nothing is owed any more", () -> sends(Houses.plainMove(Houses.GONE), 0));
        Check.test("12 step: UNDO and DROP are owed", () -> {
            RangeHouse x = Houses.plainUndo(0);
            sends(x, 0, 11, 13);
            Check.letterIs(x, 3, 11, 0, 0, 0, 2, NONE, NONE, NONE, NONE);
            Check.letterIs(x, 4, 13, 1, 0, 0, 2, NONE, NONE, NONE, NONE);
        });
        Check.test("12 step: DROP alone is owed", () -> sends(Houses.plainUndo(Houses.UNDONE), 0, 13));
        Check.test("12 step: UNDO alone is owed", () -> {
            RangeHouse x = Houses.plainUndo(Houses.DROP);
            x.deliver(Houses.DROPPED);
            sends(x, 0, 11);
        });
        Check.test("12 step: nothing is owed any more behind an undo", () -> sends(Houses.plainUndo(Houses.DROPPED), 0));
        Check.test("12 step: HOSTS but 0 send nothing of THE BOOK", () -> {
            for (int host = 1; host < 6; host++) {
                sends(Houses.plainMove(-1), host);
                sends(Houses.plainMove(Houses.DONE), host);
                sends(Houses.plainUndo(0), host);
            }
        });
        Check.test("12 step: RANGES that THE BOOK has no more are passed over", () -> {
            RangeHouse x = Houses.withRanges(4);
            x.merge(1, 0);
            x.merge(3, 2);
            x.move(3, 1);
            sends(x, 0, 3);
            x.move(1, 1);
            sends(x, 0, 3, 3);
            Check.due("17 RANGE", x.letter(Check.last(x), 3), 3);
        });
        Check.test("12 step: THE BOOK's RANGES by numbers, then HOST 0's by numbers", () -> {
            RangeHouse x = Houses.withRanges(3);
            x.move(2, 1);
            x.move(0, 1);
            x.move(1, 1);
            x.undo(1);
            x.deliver(0);
            x.deliver(1);
            int first = x.status(3);
            sends(x, 0, 3, 11, 13, 3, 4, 4);
            int[] ranges = {0, 1, 1, 2, 0, 2};
            for (int i = 0; i < ranges.length; i++) {
                Check.due("17 RANGE of " + i, x.letter(first + i, 3), ranges[i]);
            }
        });
    }

    private static void stepOfGiving() {
        Check.test("12 step: GIVING: up to 3 KEYS, the least first", () -> {
            RangeHouse x = giving(4);
            x.step(0);
            Check.due("17 KEYS", x.letter(Check.last(x), 10), 3);
            x.deliver(Check.last(x));
            for (int key = 100; key < 104; key++) {
                Check.due("20 row", x.row(1, 0, key), key < 103 ? key + 1 : 0);
            }
        });
        Check.test("12 step: GIVING: KEYS that went are to be sent no more", () -> {
            RangeHouse x = giving(4);
            x.step(0);
            Check.due("19 KEYS to be sent", x.at(0, 0, 7), 1);
        });
        Check.test("12 step: GIVING: a PART that was not TOOK goes again, as it was", () -> {
            RangeHouse x = giving(4);
            x.step(0);
            Check.done(x, 1, 1, 100, 7, 0);
            Check.done(x, 1, 2, 101, 0, 0);
            x.step(0);
            Check.letterIs(x, Check.last(x), 4, 1, 0, 0, 2, NONE, 1, 0, 3);
            Check.due("19 KEYS to be sent", x.at(0, 0, 7), 3);
            x.deliver(Check.last(x));
            Check.due("20 row", x.row(1, 0, 100), 101);
            Check.due("20 row", x.row(1, 0, 101), 102);
        });
        Check.test("12 step: GIVING: a KEY goes with what it has now, not with what it had", () -> {
            RangeHouse x = giving(4);
            Check.done(x, 1, 1, 100, 7, 0);
            x.step(0);
            x.deliver(Check.last(x));
            Check.due("20 row", x.row(1, 0, 100), 7);
        });
        Check.test("12 step: GIVING: no KEYS to be sent: CLOSED, the END is the next PART", () -> {
            RangeHouse x = giving(3);
            x.step(0);
            x.deliver(Check.last(x));
            x.deliver(Check.last(x));
            Check.due("19 GIVING", x.at(0, 0, 0), 2);
            x.step(0);
            Check.letterIs(x, Check.last(x), 4, 1, 0, 0, 2, NONE, 1, 1, -1);
            Check.atIs(x, 0, 0, 3, 1, 3, 0, 10000, 1, 1, NONE, 3);
        });
        Check.test("12 step: GIVING: a PART that was not TOOK goes again, though no KEYS are to be sent", () -> {
            RangeHouse x = giving(3);
            x.step(0);
            Check.due("19 KEYS to be sent", x.at(0, 0, 7), 0);
            x.step(0);
            Check.due("17 KEYS", x.letter(Check.last(x), 10), 3);
            Check.due("19 GIVING", x.at(0, 0, 0), 2);
        });
        Check.test("12 step: HOST 4 gives, and sends no BEGIN", () -> {
            RangeHouse x = new RangeHouse();
            Check.moveWholly(x, 0, 4);
            x.move(0, 5);
            x.deliver(Check.last(x));
            sends(x, 4, 4);
            Check.letterIs(x, Check.last(x), 4, 5, 4, 0, 3, NONE, 1, 0, -1);
        });
    }

    private static void keysWithoutRowsFirst() {
        Check.test("12 step: KEYS without a ROW go first, each the least first", () -> {
            RangeHouse x = giving(6);
            for (int i = 0; i < 2; i++) {
                x.step(0);
                x.deliver(Check.last(x));
                x.deliver(Check.last(x));
            }
            Check.due("19 ROWS of TAKING", x.at(1, 0, 2), 6);
            Check.done(x, 1, 1, 50, 7, 0);
            for (int key = 105; key > 101; key--) {
                Check.done(x, 1, 2, key, 0, 0);
            }
            Check.due("19 KEYS to be sent", x.at(0, 0, 7), 5);
            x.step(0);
            x.deliver(Check.last(x));
            Check.due("20 row of 50", x.row(1, 0, 50), 0);
            Check.due("20 row of 102", x.row(1, 0, 102), 0);
            Check.due("20 row of 104", x.row(1, 0, 104), 0);
            Check.due("20 row of 105", x.row(1, 0, 105), 106);
            x.deliver(Check.last(x));
            x.step(0);
            Check.due("17 KEYS", x.letter(Check.last(x), 10), 2);
            x.deliver(Check.last(x));
            Check.due("20 row of 50", x.row(1, 0, 50), 7);
            Check.due("20 row of 105", x.row(1, 0, 105), 0);
        });
        Check.test("12 step: two KEYS without a ROW, then the least one with a ROW, in one PART", () -> {
            RangeHouse x = giving(6);
            Check.done(x, 1, 2, 104, 0, 0);
            Check.done(x, 1, 2, 105, 0, 0);
            x.step(0);
            Check.due("17 KEYS", x.letter(Check.last(x), 10), 3);
            Check.due("19 KEYS to be sent", x.at(0, 0, 7), 3);
            x.deliver(Check.last(x));
            Check.due("19 ROWS of TAKING", x.at(1, 0, 2), 1);
            Check.due("20 row of 100", x.row(1, 0, 100), 101);
        });
    }

    /** CALLER 1's CALL while RANGE 0, with ROWS at 100 to 102 that all went, is GIVING. */
    private static void changed(String name, int kind, int key, long v, long w, int toBeSent) {
        Check.test("KEYS to be sent: " + name, () -> {
            RangeHouse x = giving(3);
            x.step(0);
            Check.due("19 KEYS to be sent", x.at(0, 0, 7), 0);
            Check.done(x, 1, kind, key, v, w);
            Check.due("19 KEYS to be sent", x.at(0, 0, 7), toBeSent);
        });
    }

    private static void keysThatCallsChange() {
        changed("a READ: none", 0, 100, 0, 0, 0);
        changed("a WRITE of a ROW: its KEY", 1, 100, 7, 0, 1);
        changed("a WRITE of the value that was there: its KEY", 1, 100, 101, 0, 1);
        changed("a WRITE of a new ROW: its KEY", 1, 50, 7, 0, 1);
        changed("a STRIKE of a ROW: its KEY", 2, 100, 0, 0, 1);
        changed("a STRIKE without a ROW: none", 2, 50, 0, 0, 0);
        changed("an ADD to a ROW: its KEY", 3, 100, 7, 0, 1);
        changed("an ADD of 0: its KEY", 3, 100, 0, 0, 1);
        changed("an ADD of a new ROW: its KEY", 3, 50, 7, 0, 1);
        changed("a SWAP that swaps: its KEY", 4, 100, 101, 7, 1);
        changed("a SWAP of a value with itself: its KEY", 4, 100, 101, 101, 1);
        changed("a SWAP that does not: none", 4, 100, 7, 8, 0);
        changed("a SWAP without a ROW: none", 4, 50, 0, 8, 0);
        Check.test("KEYS to be sent: one that was not sent yet is not counted twice", () -> {
            RangeHouse x = giving(3);
            Check.done(x, 1, 1, 100, 7, 0);
            Check.due("19 KEYS to be sent", x.at(0, 0, 7), 3);
        });
        Check.test("KEYS to be sent: one that is written and struck goes without a ROW", () -> {
            RangeHouse x = giving(0);
            Check.done(x, 1, 1, 50, 7, 0);
            Check.done(x, 1, 2, 50, 0, 0);
            Check.due("19 KEYS to be sent", x.at(0, 0, 7), 1);
            x.step(0);
            Check.due("17 KEYS", x.letter(Check.last(x), 10), 1);
            x.deliver(Check.last(x));
            Check.due("19 ROWS of TAKING", x.at(1, 0, 2), 0);
        });
        Check.test("KEYS to be sent: those that were DONE while WHOLE are ROWS or none", () -> {
            RangeHouse x = Houses.withRowsFrom100(3);
            Check.done(x, 1, 2, 100, 0, 0);
            x.move(0, 1);
            x.deliver(Check.last(x));
            Check.due("19 KEYS to be sent", x.at(0, 0, 7), 2);
        });
        Check.test("KEYS to be sent: a CALL that is KEPT changes none again", () -> {
            RangeHouse x = giving(0);
            x.call(1, 1, 50, 7, 0);
            int call = Check.last(x);
            x.deliver(call);
            x.step(0);
            x.deliver(call);
            Check.due("19 KEYS to be sent", x.at(0, 0, 7), 0);
        });
        Check.test("KEYS to be sent: of another RANGE none", () -> {
            RangeHouse x = Houses.withRanges(2);
            x.caller();
            x.move(0, 1);
            x.deliver(0);
            Check.done(x, 0, 1, 100, 7, 0);
            Check.due("19 KEYS to be sent of 0", x.at(0, 0, 7), 0);
            Check.done(x, 0, 1, 99, 7, 0);
            Check.due("19 KEYS to be sent of 0", x.at(0, 0, 7), 1);
        });
    }

    private static void stepOfClosed() {
        Check.test("12 step: CLOSED, the END was not TOOK: the END again, as it was", () -> {
            RangeHouse x = Houses.plainMove(Houses.BEGIN_AGAIN);
            for (int i = 0; i < 3; i++) {
                x.step(0);
                Check.letterIs(x, Check.last(x), 4, 1, 0, 0, 2, NONE, 1, 0, -1);
                Check.due("19 PART", x.at(0, 0, 6), 0);
            }
        });
        Check.test("12 step: CLOSED, the END was TOOK: a DONE again", () -> {
            RangeHouse x = Houses.plainMove(Houses.TOOK);
            for (int i = 0; i < 3; i++) {
                x.step(0);
                Check.letterIs(x, Check.last(x), 6, 0, 0, 0, 2, NONE, NONE, NONE, NONE);
                Check.due("19 PART", x.at(0, 0, 6), 1);
            }
        });
        Check.test("12 step: CLOSED, the MOVE is undone at THE BOOK, but the UNDO did not come yet: a DONE again", () -> {
            RangeHouse x = Houses.plainMove(Houses.TOOK);
            x.undo(0);
            sends(x, 0, 11, 13, 6);
        });
    }

    private static void fall() {
        Check.test("15 fall: TAKING is NOTHING", () -> {
            RangeHouse x = giving(4);
            x.step(0);
            x.deliver(Check.last(x));
            Check.due("fall", x.fall(1), 1);
            Check.atIsNothing(x, 1, 0);
            Check.due("20 row", x.row(1, 0, 100), 0);
        });
        Check.test("15 fall: READY stays", () -> {
            RangeHouse x = Houses.plainMove(Houses.END);
            Check.due("fall", x.fall(1), 0);
            Check.due("19 READY", x.at(1, 0, 0), 5);
        });
        Check.test("15 fall: WHOLE stays, with ROWS and KEPT ANSWERS", () -> {
            RangeHouse x = Houses.withRowsFrom100(3);
            Check.due("fall", x.fall(0), 0);
            Check.atIs(x, 0, 0, 1, 1, 3, 0, 10000, NONE, NONE, NONE, 3);
            Check.due("21 weight", x.weight(0), 3);
        });
        Check.test("15 fall: GIVING stays, and goes on with the PART that was not TOOK", () -> {
            RangeHouse x = giving(4);
            x.step(0);
            Check.due("fall", x.fall(0), 0);
            Check.atIs(x, 0, 0, 2, 1, 4, 0, 10000, 1, 0, 1, 4);
            x.rise(0);
            x.step(0);
            Check.letterIs(x, Check.last(x), 4, 1, 0, 0, 2, NONE, 1, 0, 3);
        });
        Check.test("15 fall: CLOSED stays, and that the END was TOOK", () -> {
            RangeHouse x = Houses.plainMove(Houses.TOOK);
            Check.due("fall", x.fall(0), 0);
            Check.due("19 CLOSED", x.at(0, 0, 0), 3);
            x.rise(0);
            sends(x, 0, 3, 6);
        });
        Check.test("15 fall: THE BOOK stays, and what is owed", () -> {
            RangeHouse x = Houses.plainMove(Houses.DONE);
            x.fall(0);
            Check.rangeIs(x, 0, 0, 10000, 2, 1, NONE, 3, 0);
        });
        Check.test("15 fall: PAST stays", () -> {
            RangeHouse x = giving(4);
            x.step(0);
            int part = Check.last(x);
            x.deliver(part);
            x.fall(1);
            x.rise(1);
            x.deliver(part);
            Check.due("17 m", x.letter(Check.last(x), 9), -1);
        });
        Check.test("15 fall: two were TAKING, at another HOST one stays", () -> {
            RangeHouse x = Check.withRows(50, 150, 250);
            x.split(0, 100);
            x.split(1, 200);
            int[] takers = {3, 4, 3};
            for (int r = 0; r < 3; r++) {
                x.move(r, takers[r]);
                x.deliver(Check.last(x));
            }
            x.step(0);
            for (int l = x.status(3) - 3, last = Check.last(x); l <= last; l++) {
                x.deliver(l);
            }
            Check.due("fall(3)", x.fall(3), 2);
            Check.due("19 TAKING", x.at(4, 1, 0), 4);
            Check.due("fall(4)", x.fall(4), 1);
        });
    }

    private static void free() {
        Check.test("FREE: no MOVE, nothing owed, WHOLE: FREE", () -> Check.due("18", new RangeHouse().range(0, 6), 1));
        Check.test("FREE: a MOVE is under way: not FREE, though WHOLE", () -> {
            RangeHouse x = Houses.plainMove(-1);
            Check.due("19 WHOLE", x.at(0, 0, 0), 1);
            Check.due("18", x.range(0, 6), 0);
        });
        Check.test("FREE: OPEN and GO are owed: not FREE", () -> Check.due("18", Houses.plainMove(Houses.DONE).range(0, 6), 0));
        Check.test("FREE: GO alone is owed: not FREE, though WHOLE", () -> {
            RangeHouse x = Houses.plainMove(Houses.OPENED);
            Check.due("18 owed", x.range(0, 5), 2);
            Check.due("18", x.range(0, 6), 0);
        });
        Check.test("FREE: OPEN alone is owed: not FREE, though WHOLE", () -> {
            RangeHouse x = Houses.plainMove(Houses.GO);
            x.deliver(Houses.GONE);
            Check.due("18 owed", x.range(0, 5), 1);
            Check.due("18", x.range(0, 6), 0);
        });
        Check.test("FREE: nothing is owed any more, WHOLE at the taker: FREE", () -> Check.due("18", Houses.plainMove(Houses.GONE).range(0, 6), 1));
        Check.test("FREE: DROP alone is owed: not FREE, though WHOLE", () -> {
            RangeHouse x = Houses.plainUndo(Houses.UNDONE);
            Check.due("18 owed", x.range(0, 5), 8);
            Check.due("18", x.range(0, 6), 0);
        });
        Check.test("FREE: UNDO alone is owed: not FREE, though WHOLE", () -> {
            RangeHouse x = Houses.plainUndo(Houses.DROP);
            x.deliver(Houses.DROPPED);
            Check.due("18 owed", x.range(0, 5), 4);
            Check.due("18", x.range(0, 6), 0);
        });
        Check.test("FREE: undone, nothing is owed any more: FREE", () -> Check.due("18", Houses.plainUndo(Houses.DROPPED).range(0, 6), 1));
        Check.test("FREE: its HOME is DOWN: FREE all the same", () -> Check.due("18", Houses.fallen(new RangeHouse(), 0).range(0, 6), 1));
    }
}
