/** The LETTERS of a MOVE (KINDS 3 to 14): each clause of what they do, and of when they do nothing. */
public final class MoveLettersTest {
    private static final int NONE = Check.NONE;

    public static void main(String[] args) {
        begin();
        partToNothing();
        partToTaking();
        partToReady();
        partToOthers();
        took();
        tookAnew();
        done();
        open();
        go();
        undo();
        drop();
        owedNoMore();
        toHostsThatAreDown();
        Check.end("MoveLettersTest");
    }

    // ---- houses

    /** RANGE 0 with ROWS of 4 KEYS from 100 on, GIVING at HOST 0 to HOST 1; BEGIN is LETTER 8. */
    private static RangeHouse fourGiving() {
        RangeHouse x = Houses.withRowsFrom100(4);
        x.move(0, 1);
        x.deliver(8);
        return x;
    }

    /** PART 0, with 3 KEYS, is LETTER 10, and sent. */
    private static RangeHouse partSent() {
        RangeHouse x = fourGiving();
        x.step(0);
        return x;
    }

    /** PART 0 is taken; its TOOK is LETTER 11. */
    private static RangeHouse partTaken() {
        RangeHouse x = partSent();
        x.deliver(10);
        return x;
    }

    /** PART 0 was TOOK; PART 1, with 1 KEY, is LETTER 13, and sent. */
    private static RangeHouse nextSent() {
        RangeHouse x = partTaken();
        x.deliver(11);
        x.step(0);
        return x;
    }

    /** The taker fell in the midst, so RANGE 0 is NOTHING there, and PAST are 2 and 1. */
    private static RangeHouse takerFell() {
        RangeHouse x = nextSent();
        x.fall(1);
        x.rise(1);
        return x;
    }

    /** Asked for anew by LETTER 14, the giver begins ATTEMPT 2: PART 0 is LETTER 16. */
    private static RangeHouse secondAttempt() {
        RangeHouse x = takerFell();
        x.deliver(13);
        x.deliver(14);
        x.step(0);
        return x;
    }

    /** The MOVE of E 2 is undone, and RANGE 0 is FREE; PART 0 (LETTER 10) did not come yet. */
    private static RangeHouse undoneBehindPart() {
        RangeHouse x = partSent();
        x.undo(0);
        for (int l = 11; l < 15; l++) {
            x.deliver(l);
        }
        Check.due("FREE", x.range(0, 6), 1);
        return x;
    }

    /** Then a MOVE of E 4 is begun: its PART 0 is the last LETTER, and sent. */
    private static RangeHouse secondMove() {
        RangeHouse x = undoneBehindPart();
        x.move(0, 1);
        x.deliver(Check.last(x));
        x.step(0);
        return x;
    }

    /** HOST 0's RANGE 0 went to 1 (E 2, the LETTERS of plainMove), came back (E 3), and goes to 1 again (E 4). */
    private static RangeHouse thirdMove() {
        RangeHouse x = Houses.plainMove(Houses.GONE);
        Check.moveWholly(x, 0, 0);
        x.move(0, 1);
        return x;
    }

    private static void isLast(RangeHouse x, int kind, int to, int from, int epoch) {
        Check.letterIs(x, Check.last(x), kind, to, from, 0, epoch, NONE, NONE, NONE, NONE);
    }

    private static void tookIsLast(RangeHouse x, int epoch, int attempt, int m) {
        Check.letterIs(x, Check.last(x), 5, 0, 1, 0, epoch, NONE, attempt, m, NONE);
    }

    // ---- tests

    private static void begin() {
        Check.test("3 BEGIN: WHOLE with E - 1: GIVING, ATTEMPT 1, PART 0, all KEYS to be sent", () ->
            Check.atIs(fourGiving(), 0, 0, 2, 1, 4, 0, 10000, 1, 0, 4, 4));
        Edge.doesNothing("3 BEGIN: GIVING by now: nothing", MoveLettersTest::nextSent, 8, 1);
        Edge.doesNothing("3 BEGIN: CLOSED by now: nothing", () -> Houses.plainMove(Houses.BEGIN_AGAIN), Houses.BEGIN, 1);
        Edge.doesNothing("3 BEGIN: NOTHING by now: nothing", () -> Houses.plainMove(Houses.GONE), Houses.BEGIN, 1);
        Edge.doesNothing("3 BEGIN: WHOLE with F, as it is undone: nothing", () -> Houses.plainUndo(Houses.UNDO), Houses.BEGIN, 1);
        Edge.doesNothing("3 BEGIN: WHOLE with an EPOCH above: nothing", MoveLettersTest::thirdMove, Houses.BEGIN, 1);
        Check.test("3 BEGIN: undone at THE BOOK, but the UNDO did not come yet: GIVING", () -> {
            RangeHouse x = Houses.plainUndo(0);
            x.deliver(Houses.BEGIN);
            Check.due("19 GIVING", x.at(0, 0, 0), 2);
        });
        Check.test("3 BEGIN: one that a step sent does the same", () -> {
            RangeHouse x = Houses.plainMove(-1);
            x.step(0);
            x.deliver(1);
            Check.atIs(x, 0, 0, 2, 1, 0, 0, 10000, 1, 0, 0, 0);
        });
    }

    private static void partToNothing() {
        Check.test("4 PART: NOTHING, no PAST, m 0: TAKING with E, SPAN, ATTEMPT; it is taken, a TOOK goes back", () -> {
            RangeHouse x = partTaken();
            Check.atIs(x, 1, 0, 4, 2, 3, 0, 10000, 1, 1, NONE, 0);
            tookIsLast(x, 2, 1, 0);
        });
        Check.test("4 PART: the SPAN is the RANGE's", () -> {
            RangeHouse x = Houses.withRanges(3);
            x.move(1, 4);
            x.deliver(0);
            x.step(0);
            x.deliver(2);
            Check.atIs(x, 4, 1, 5, 4, 0, 100, 200, NONE, NONE, NONE, 0);
        });
        Check.test("4 PART: NOTHING, m 1: a TOOK with -1", () -> {
            RangeHouse x = takerFell();
            x.deliver(13);
            Check.atIsNothing(x, 1, 0);
            tookIsLast(x, 2, 1, -1);
        });
        Check.test("4 PART: NOTHING, m 0, E and ATTEMPT as PAST: a TOOK with -1", () -> {
            RangeHouse x = takerFell();
            x.deliver(10);
            Check.atIsNothing(x, 1, 0);
            tookIsLast(x, 2, 1, -1);
        });
        Check.test("4 PART: NOTHING, m 0, E as PAST, ATTEMPT 1 above: TAKING", () -> {
            RangeHouse x = secondAttempt();
            x.deliver(16);
            Check.atIs(x, 1, 0, 4, 2, 3, 0, 10000, 2, 1, NONE, 0);
            tookIsLast(x, 2, 2, 0);
        });
        Check.test("4 PART: NOTHING, m 0, E as PAST, ATTEMPT 3 behind 2: TAKING", () -> {
            RangeHouse x = secondAttempt();
            x.deliver(16);
            x.fall(1);
            x.rise(1);
            x.deliver(16);
            tookIsLast(x, 2, 2, -1);
            x.deliver(Check.last(x));
            x.step(0);
            x.deliver(Check.last(x));
            Check.atIs(x, 1, 0, 4, 2, 3, 0, 10000, 3, 1, NONE, 0);
            tookIsLast(x, 2, 3, 0);
        });
        Check.test("4 PART: NOTHING, m 0, E above PAST, ATTEMPT not: TAKING", () -> {
            RangeHouse x = secondAttempt();
            x.deliver(16);
            x.undo(0);
            int undo = x.status(3) - 2;
            for (int l = undo; l < undo + 4; l++) {
                x.deliver(l);
            }
            Check.atIsNothing(x, 1, 0);
            x.move(0, 1);
            x.deliver(Check.last(x));
            x.step(0);
            x.deliver(Check.last(x));
            Check.atIs(x, 1, 0, 4, 4, 3, 0, 10000, 1, 1, NONE, 0);
        });
        Check.test("4 PART: NOTHING, m 0, E below PAST: a TOOK with -1", () -> {
            RangeHouse x = secondMove();
            x.deliver(Check.last(x));
            Check.due("19 TAKING E 4", x.at(1, 0, 1), 4);
            x.fall(1);
            x.rise(1);
            x.deliver(10);
            Check.atIsNothing(x, 1, 0);
            tookIsLast(x, 2, 1, -1);
        });
        Check.test("4 PART: the END as PART 0: READY at once, and a TOOK with 0", () -> {
            RangeHouse x = Houses.plainMove(Houses.END);
            Check.atIs(x, 1, 0, 5, 2, 0, 0, 10000, NONE, NONE, NONE, 0);
            tookIsLast(x, 2, 1, 0);
        });
    }

    private static void partToTaking() {
        Check.test("4 PART: TAKING, m is the next one: it is taken", () -> {
            RangeHouse x = nextSent();
            x.deliver(13);
            Check.atIs(x, 1, 0, 4, 2, 4, 0, 10000, 1, 2, NONE, 0);
            tookIsLast(x, 2, 1, 1);
        });
        Check.test("4 PART: TAKING, m is less: nothing is taken, a TOOK with m goes back", () -> {
            RangeHouse x = partTaken();
            x.deliver(11);
            Check.done(x, 1, 1, 100, 7, 0);
            x.step(0);
            x.deliver(Check.last(x));
            Check.due("20 row", x.row(1, 0, 100), 7);
            x.deliver(10);
            Check.due("20 row", x.row(1, 0, 100), 7);
            Check.due("19 PART", x.at(1, 0, 6), 2);
            tookIsLast(x, 2, 1, 0);
        });
        Edge.doesNothing("4 PART: TAKING with a greater ATTEMPT: nothing", () -> {
            RangeHouse x = secondAttempt();
            x.deliver(16);
            return x;
        }, 10, 1);
        Edge.doesNothing("4 PART: TAKING with a greater ATTEMPT, m would be the next one: nothing", () -> {
            RangeHouse x = secondAttempt();
            x.deliver(16);
            return x;
        }, 13, 1);
        Edge.doesNothing("4 PART: TAKING with a greater E: nothing", () -> {
            RangeHouse x = secondMove();
            x.deliver(Check.last(x));
            return x;
        }, 10, 1);
        Check.test("4 PART: TAKING, m 0, E above: TAKING anew, without the ROWS that it had", () -> {
            RangeHouse x = secondMoveOfOneRow();
            Check.atIs(x, 1, 0, 4, 2, 3, 0, 10000, 1, 1, NONE, 0);
            x.deliver(Check.last(x));
            Check.atIs(x, 1, 0, 4, 4, 1, 0, 10000, 1, 1, NONE, 0);
            tookIsLast(x, 4, 1, 0);
        });
        Check.test("4 PART: TAKING, the END: the KEPT ANSWERS are as told, READY", () -> {
            RangeHouse x = nextSent();
            x.deliver(13);
            x.deliver(14);
            Check.due("19 KEPT ANSWERS", x.at(1, 0, 8), 0);
            x.step(0);
            x.deliver(Check.last(x));
            Check.atIs(x, 1, 0, 5, 2, 4, 0, 10000, NONE, NONE, NONE, 4);
            tookIsLast(x, 2, 1, 2);
        });
        Check.test("4 PART: a KEY without a ROW: the ROW goes", () -> {
            RangeHouse x = partTaken();
            x.deliver(11);
            Check.done(x, 1, 2, 100, 0, 0);
            x.step(0);
            Check.due("17 KEYS", x.letter(Check.last(x), 10), 2);
            x.deliver(Check.last(x));
            Check.due("19 ROWS", x.at(1, 0, 2), 3);
            Check.due("20 row", x.row(1, 0, 100), 0);
        });
        Check.test("4 PART: a KEY without a ROW that the taker never had", () -> {
            RangeHouse x = fourGiving();
            Check.done(x, 1, 2, 100, 0, 0);
            x.step(0);
            x.deliver(Check.last(x));
            Check.due("19 ROWS: the KEYS 101 and 102", x.at(1, 0, 2), 2);
            Check.due("20 row", x.row(1, 0, 102), 103);
        });
    }

    /** As secondMove, but PART 0 of E 2 came late, and 3 of the 4 ROWS are struck. */
    private static RangeHouse secondMoveOfOneRow() {
        RangeHouse x = undoneBehindPart();
        x.deliver(10);
        x.learn(1);
        for (int key = 100; key < 103; key++) {
            Check.done(x, 1, 2, key, 0, 0);
        }
        x.move(0, 1);
        x.deliver(Check.last(x));
        x.step(0);
        return x;
    }

    /** READY at HOST 1 with E 2, from an undone MOVE; 2 KEPT ANSWERS; the END is LETTER 6. HOST 0 has it FREE with EPOCH 3. */
    private static RangeHouse readyLeft() {
        RangeHouse x = Houses.withCallers(1);
        Check.done(x, 0, 0, 5, 0, 0);
        Check.done(x, 0, 0, 5, 0, 0);
        x.move(0, 1);
        x.deliver(4);
        x.step(0);
        x.undo(0);
        for (int l = 7; l < 11; l++) {
            x.deliver(l);
        }
        x.deliver(6);
        Check.atIs(x, 1, 0, 5, 2, 0, 0, 10000, NONE, NONE, NONE, 2);
        return x;
    }

    private static void partToReady() {
        Check.test("4 PART: READY with E: a TOOK with m, nothing is taken", () -> {
            RangeHouse x = Houses.plainMove(Houses.END);
            x.deliver(Houses.END);
            Check.due("24 LETTERS", x.status(3), 5);
            tookIsLast(x, 2, 1, 0);
            Check.due("19 READY", x.at(1, 0, 0), 5);
        });
        Check.test("4 PART: READY with E, a PART of an earlier ATTEMPT: a TOOK with that ATTEMPT and m", () -> {
            RangeHouse x = secondAttempt();
            x.deliver(16);
            x.deliver(17);
            for (int i = 0; i < 2; i++) {
                x.step(0);
                x.deliver(Check.last(x));
                x.deliver(Check.last(x));
            }
            Check.due("19 READY", x.at(1, 0, 0), 5);
            x.deliver(13);
            tookIsLast(x, 2, 1, 1);
            Check.due("19 ROWS", x.at(1, 0, 2), 4);
        });
        Check.test("4 PART: READY, m 0, E above: TAKING anew, without ROWS and KEPT ANSWERS", () -> {
            RangeHouse x = readyLeft();
            x.learn(0);
            Check.done(x, 0, 1, 5, 7, 0);
            x.move(0, 1);
            x.deliver(Check.last(x));
            x.step(0);
            x.deliver(Check.last(x));
            Check.atIs(x, 1, 0, 4, 4, 1, 0, 10000, 1, 1, NONE, 0);
            tookIsLast(x, 4, 1, 0);
        });
        Edge.doesNothing("4 PART: READY with a greater E: nothing", () -> {
            RangeHouse x = readyLeft();
            x.move(0, 1);
            x.deliver(Check.last(x));
            x.step(0);
            x.deliver(Check.last(x));
            Check.due("19 READY with E 4", x.at(1, 0, 0) * 10 + x.at(1, 0, 1), 54);
            return x;
        }, 6, 1);
    }

    private static void partToOthers() {
        Edge.doesNothing("4 PART: WHOLE by now: nothing", () -> Houses.plainMove(Houses.OPEN), Houses.END, 1);
        Edge.doesNothing("4 PART: GIVING by now: nothing", () -> givingOn(false), Houses.END, 1);
        Edge.doesNothing("4 PART: CLOSED by now: nothing", () -> givingOn(true), Houses.END, 1);
        Check.test("4 PART: NOTHING by now, as it went on: a TOOK with -1", () -> {
            RangeHouse x = Houses.plainMove(Houses.GONE);
            Check.moveWholly(x, 0, 2);
            x.deliver(Houses.END);
            Check.atIsNothing(x, 1, 0);
            tookIsLast(x, 2, 1, -1);
        });
    }

    /** RANGE 0 came to HOST 1 by plainMove, and is GIVING or CLOSED there. */
    private static RangeHouse givingOn(boolean closed) {
        RangeHouse x = Houses.plainMove(Houses.GONE);
        x.move(0, 2);
        x.deliver(Check.last(x));
        if (closed) {
            x.step(1);
        }
        Check.due("19 GIVING or CLOSED", x.at(1, 0, 0), closed ? 3 : 2);
        return x;
    }

    private static void took() {
        Check.test("5 TOOK: m is the PART that was sent last: PART is 1 more", () -> {
            RangeHouse x = partTaken();
            x.deliver(11);
            Check.due("19 PART", x.at(0, 0, 6), 1);
            Check.due("24 no LETTER", x.status(3), 12);
        });
        Edge.doesNothing("5 TOOK: the same again: nothing", () -> {
            RangeHouse x = partTaken();
            x.deliver(11);
            return x;
        }, 11, 1);
        Edge.doesNothing("5 TOOK: of an earlier PART, when the next one is sent: nothing", MoveLettersTest::nextSent, 11, 1);
        Edge.doesNothing("5 TOOK: of an earlier ATTEMPT, m is the PART that was sent last: nothing", MoveLettersTest::secondAttempt, 11, 1);
        Edge.doesNothing("5 TOOK: -1 of an earlier ATTEMPT: nothing", MoveLettersTest::secondAttempt, 14, 1);
        Edge.doesNothing("5 TOOK: of an earlier MOVE: nothing", () -> {
            RangeHouse x = partTaken();
            x.undo(0);
            for (int l = 12; l < 16; l++) {
                x.deliver(l);
            }
            x.move(0, 1);
            x.deliver(16);
            x.step(0);
            Check.due("GIVING, PART 0 was sent", x.letter(Check.last(x), 9), 0);
            return x;
        }, 11, 1);
        Edge.doesNothing("5 TOOK: WHOLE by now, as it is undone: nothing", () -> {
            RangeHouse x = partTaken();
            x.undo(0);
            x.deliver(12);
            return x;
        }, 11, 1);
        Edge.doesNothing("5 TOOK: NOTHING by now, as it went: nothing", () -> Houses.plainMove(Houses.GONE), Houses.TOOK, 1);
        Check.test("5 TOOK: of the END: the END was TOOK, PART is 1 more, a DONE with E goes to HOST 0", () -> {
            RangeHouse x = Houses.plainMove(Houses.TOOK);
            Check.atIs(x, 0, 0, 3, 1, 0, 0, 10000, 1, 1, NONE, 0);
            isLast(x, 6, 0, 0, 2);
        });
        Edge.doesNothing("5 TOOK: of the END again: nothing", () -> Houses.plainMove(Houses.TOOK), Houses.TOOK, 1);
        Check.test("5 TOOK: of a PART that was sent twice: one is enough", () -> {
            RangeHouse x = partSent();
            x.step(0);
            x.deliver(12);
            x.deliver(13);
            Check.due("19 PART", x.at(0, 0, 6), 1);
            Check.due("19 KEYS to be sent", x.at(0, 0, 7), 1);
        });
    }

    private static void tookAnew() {
        Check.test("5 TOOK: -1, GIVING: ATTEMPT 1 more, PART 0, all KEYS to be sent", () -> {
            RangeHouse x = takerFell();
            x.deliver(13);
            x.deliver(14);
            Check.atIs(x, 0, 0, 2, 1, 4, 0, 10000, 2, 0, 4, 4);
        });
        Check.test("5 TOOK: -1, CLOSED, the END was not TOOK: GIVING again", () -> {
            RangeHouse x = nextSent();
            x.deliver(13);
            x.deliver(14);
            x.step(0);
            Check.due("19 CLOSED", x.at(0, 0, 0), 3);
            int end = Check.last(x);
            x.fall(1);
            x.rise(1);
            x.deliver(end);
            x.deliver(Check.last(x));
            Check.atIs(x, 0, 0, 2, 1, 4, 0, 10000, 2, 0, 4, 4);
            Check.answerIs(x, 1, Check.done(x, 1, 1, 100, 7, 0), 101, 1);
        });
        Edge.doesNothing("5 TOOK: -1, the END was TOOK: nothing", () -> {
            RangeHouse x = Houses.plainMove(Houses.TOOK);
            x.undo(0);
            x.deliver(6);
            x.deliver(Houses.END);
            Check.due("17 m", x.letter(8, 9), -1);
            Check.due("19 CLOSED", x.at(0, 0, 0), 3);
            return x;
        }, 8, 1);
        Edge.doesNothing("5 TOOK: -1, NOTHING by now, as it went: nothing", () -> {
            RangeHouse x = Houses.plainMove(Houses.GONE);
            Check.moveWholly(x, 0, 2);
            x.deliver(Houses.END);
            tookIsLast(x, 2, 1, -1);
            return x;
        }, 17, 1);
        Edge.doesNothing("5 TOOK: -1 of an earlier MOVE, WHOLE by now: nothing", () -> cameBack(false), 17, 1);
        Edge.doesNothing("5 TOOK: -1 of an earlier MOVE, GIVING by now: nothing", () -> cameBack(true), 17, 1);
        Check.test("5 TOOK: -1: KEYS whose ROWS went are to be sent no more", () -> {
            RangeHouse x = nextSent();
            Check.done(x, 1, 2, 100, 0, 0);
            Check.due("19 KEYS to be sent", x.at(0, 0, 7), 1);
            x.fall(1);
            x.rise(1);
            x.deliver(13);
            x.deliver(Check.last(x));
            Check.atIs(x, 0, 0, 2, 1, 3, 0, 10000, 2, 0, 3, 5);
        });
    }

    /** RANGE 0 went to HOST 1 (E 2) and came back (E 3); LETTER 17 is a late TOOK with -1 of E 2. It may be GIVING again (E 4). */
    private static RangeHouse cameBack(boolean giving) {
        RangeHouse x = Houses.plainMove(Houses.GONE);
        Check.moveWholly(x, 0, 0);
        x.deliver(Houses.END);
        tookIsLast(x, 2, 1, -1);
        if (giving) {
            x.move(0, 1);
            x.deliver(18);
            x.step(0);
        }
        return x;
    }

    private static void done() {
        Check.test("6 DONE: under way, with E: HOME, EPOCH, over; OPEN and GO are sent and owed", () -> {
            RangeHouse x = Houses.plainMove(Houses.DONE);
            Check.rangeIs(x, 0, 0, 10000, 2, 1, NONE, 3, 0);
            Check.letterIs(x, Houses.OPEN, 7, 1, 0, 0, 2, NONE, NONE, NONE, NONE);
            Check.letterIs(x, Houses.GO, 9, 0, 0, 0, 2, NONE, NONE, NONE, NONE);
            Check.due("24 MOVES over", x.status(6), 1);
        });
        Edge.doesNothing("6 DONE: the MOVE is over: nothing", () -> Houses.plainMove(Houses.DONE), Houses.DONE, 1);
        Edge.doesNothing("6 DONE: the MOVE is over and nothing is owed: nothing", () -> Houses.plainMove(Houses.GONE), Houses.DONE, 1);
        Edge.doesNothing("6 DONE: the MOVE is undone: nothing", () -> {
            RangeHouse x = Houses.plainMove(Houses.TOOK);
            x.undo(0);
            return x;
        }, Houses.DONE, 1);
        Edge.doesNothing("6 DONE: a MOVE of another E is under way: nothing", MoveLettersTest::thirdMove, Houses.DONE, 1);
        Edge.doesNothing("6 DONE: THE BOOK has the RANGE no more: nothing", MoveLettersTest::goneByMerge, 4, 1);
    }

    /** RANGE 0 (to 100) went to HOST 1 by the LETTERS of plainMove, and RANGE 1 too; then they were merged into 1. */
    private static RangeHouse goneByMerge() {
        RangeHouse x = Houses.withRanges(2);
        x.move(0, 1);
        x.deliver(Houses.BEGIN);
        x.step(0);
        for (int l = Houses.END; l <= Houses.GONE; l++) {
            x.deliver(l);
        }
        Check.moveWholly(x, 1, 1);
        Check.due("11 merge", x.merge(1, 0), 4);
        return x;
    }

    private static void open() {
        Check.test("7 OPEN: READY with E: WHOLE with E; an OPENED goes back", () -> {
            RangeHouse x = Houses.plainMove(Houses.OPEN);
            Check.atIs(x, 1, 0, 1, 2, 0, 0, 10000, NONE, NONE, NONE, 0);
            isLast(x, 8, 0, 1, 2);
        });
        Check.test("7 OPEN: WHOLE with E by now: an OPENED goes back", () -> {
            RangeHouse x = Houses.plainMove(Houses.OPEN);
            x.deliver(Houses.OPEN);
            Check.due("24 LETTERS", x.status(3), 9);
            isLast(x, 8, 0, 1, 2);
        });
        Check.test("7 OPEN: GIVING with E by now: an OPENED goes back", () -> {
            RangeHouse x = givingOn(false);
            int sent = x.status(3);
            x.deliver(Houses.OPEN);
            Check.due("24 LETTERS", x.status(3), sent + 1);
            isLast(x, 8, 0, 1, 2);
            Check.due("19 GIVING", x.at(1, 0, 0), 2);
        });
        Check.test("7 OPEN: CLOSED with E by now: an OPENED goes back", () -> {
            RangeHouse x = givingOn(true);
            int sent = x.status(3);
            x.deliver(Houses.OPEN);
            Check.due("24 LETTERS", x.status(3), sent + 1);
            isLast(x, 8, 0, 1, 2);
            Check.due("19 CLOSED", x.at(1, 0, 0), 3);
        });
        Edge.doesNothing("7 OPEN: NOTHING by now: nothing", MoveLettersTest::thirdMove, Houses.OPEN, 1);
        Edge.doesNothing("7 OPEN: TAKING with another E: nothing", () -> withTheTaker(4), Houses.OPEN, 1);
        Edge.doesNothing("7 OPEN: READY with another E: nothing", () -> withTheTaker(5), Houses.OPEN, 1);
        Edge.doesNothing("7 OPEN: WHOLE with another E: nothing", () -> withTheTaker(1), Houses.OPEN, 1);
        Edge.doesNothing("7 OPEN: WHOLE with an EPOCH above, by a split: nothing", () -> {
            RangeHouse x = Houses.plainMove(Houses.GONE);
            x.split(0, 100);
            return x;
        }, Houses.OPEN, 1);
    }

    /** As thirdMove, with a ROW, up to where RANGE 0 is so at HOST 1, the taker, with E 4. */
    private static RangeHouse withTheTaker(int state) {
        RangeHouse x = Houses.plainMove(Houses.GONE);
        x.caller();
        Check.done(x, 0, 1, 5, 7, 0);
        Check.moveWholly(x, 0, 0);
        x.move(0, 1);
        x.deliver(Check.last(x));
        for (int i = 0; i < 3 && x.at(1, 0, 0) != state; i++) {
            x.step(0);
            x.deliver(Check.last(x));
            if (x.at(1, 0, 0) != state) {
                x.deliver(Check.last(x));
            }
            if (x.letter(Check.last(x), 0) == 6) {
                x.deliver(Check.last(x));
                x.deliver(x.status(3) - 2);
            }
        }
        Check.due("19 state and EPOCH", x.at(1, 0, 0) * 10 + x.at(1, 0, 1), state * 10 + 4);
        return x;
    }

    private static void go() {
        Check.test("9 GO: CLOSED for a MOVE of E: NOTHING; a GONE goes back", () -> {
            RangeHouse x = Houses.plainMove(Houses.GO);
            Check.atIsNothing(x, 0, 0);
            isLast(x, 10, 0, 0, 2);
        });
        Check.test("9 GO: NOTHING by now: a GONE goes back", () -> {
            RangeHouse x = Houses.plainMove(Houses.GONE);
            x.deliver(Houses.GO);
            Check.due("24 LETTERS", x.status(3), 10);
            isLast(x, 10, 0, 0, 2);
        });
        Check.test("9 GO: NOTHING by now: it is not GIVEN again, behind what the HOST GAVE since", () -> {
            RangeHouse x = Houses.plainMove(Houses.GONE);
            x.split(0, 500);
            Check.moveWholly(x, 1, 0);
            x.caller();
            Check.moveWholly(x, 1, 2);
            for (int i = 0; i < 2; i++) {
                int call = x.status(3);
                x.call(0, 0, 600, 0, 0);
                x.deliver(call);
                Check.letterIs(x, call + 1, 2, 0, 0, 1, 5, i, NONE, NONE, NONE);
                x.deliver(Houses.GO);
                isLast(x, 10, 0, 0, 2);
            }
        });
        Check.test("9 GO: WHOLE with an EPOCH above: it stays; a GONE goes back", () -> {
            RangeHouse x = thirdMove();
            x.deliver(Houses.GO);
            Check.due("19 WHOLE", x.at(0, 0, 0) * 10 + x.at(0, 0, 1), 13);
            isLast(x, 10, 0, 0, 2);
        });
        Check.test("9 GO: GIVING for a MOVE of another E: it stays; a GONE goes back", () -> {
            RangeHouse x = thirdMove();
            x.deliver(Check.last(x));
            x.deliver(Houses.GO);
            Check.due("19 GIVING", x.at(0, 0, 0), 2);
            isLast(x, 10, 0, 0, 2);
        });
        Check.test("9 GO: CLOSED for a MOVE of another E: it stays; a GONE goes back", () -> {
            RangeHouse x = thirdMove();
            x.deliver(Check.last(x));
            x.step(0);
            x.deliver(Houses.GO);
            Check.due("19 CLOSED", x.at(0, 0, 0), 3);
            isLast(x, 10, 0, 0, 2);
        });
    }

    private static void undo() {
        Check.test("11 UNDO: WHOLE with E - 1: WHOLE with F; an UNDONE goes back", () -> {
            RangeHouse x = Houses.plainUndo(Houses.UNDO);
            Check.atIs(x, 0, 0, 1, 3, 0, 0, 10000, NONE, NONE, NONE, 0);
            isLast(x, 12, 0, 0, 2);
        });
        Check.test("11 UNDO: GIVING with E - 1: WHOLE with F, with all ROWS; an UNDONE goes back", () -> {
            RangeHouse x = nextSent();
            x.undo(0);
            x.deliver(x.status(3) - 2);
            Check.atIs(x, 0, 0, 1, 3, 4, 0, 10000, NONE, NONE, NONE, 4);
            isLast(x, 12, 0, 0, 2);
        });
        Check.test("11 UNDO: CLOSED with E - 1: WHOLE with F; an UNDONE goes back", () -> {
            RangeHouse x = Houses.plainMove(Houses.BEGIN_AGAIN);
            x.undo(0);
            x.deliver(3);
            Check.atIs(x, 0, 0, 1, 3, 0, 0, 10000, NONE, NONE, NONE, 0);
            isLast(x, 12, 0, 0, 2);
        });
        Check.test("11 UNDO: CLOSED, the END was TOOK: WHOLE with F; no DONE any more", () -> {
            RangeHouse x = Houses.plainMove(Houses.TOOK);
            x.undo(0);
            x.deliver(5);
            Check.atIs(x, 0, 0, 1, 3, 0, 0, 10000, NONE, NONE, NONE, 0);
            Check.due("12 step: UNDO and DROP", x.step(0), 2);
        });
        Check.test("11 UNDO: with F by now: it stays; an UNDONE goes back", () -> {
            RangeHouse x = Houses.plainUndo(Houses.UNDO);
            x.deliver(Houses.UNDO);
            Check.due("24 LETTERS", x.status(3), 5);
            Check.due("19 EPOCH", x.at(0, 0, 1), 3);
            isLast(x, 12, 0, 0, 2);
        });
        Check.test("11 UNDO: with an EPOCH above F by now: it stays; an UNDONE goes back", () -> {
            RangeHouse x = Houses.plainUndo(Houses.DROPPED);
            x.split(0, 100);
            x.deliver(Houses.UNDO);
            Check.atIs(x, 0, 0, 1, 4, 0, 0, 100, NONE, NONE, NONE, 0);
            isLast(x, 12, 0, 0, 2);
        });
        Check.test("11 UNDO: GIVING with F by now: it stays so; an UNDONE goes back", () -> {
            RangeHouse x = Houses.plainUndo(Houses.DROPPED);
            x.move(0, 2);
            x.deliver(Check.last(x));
            x.deliver(Houses.UNDO);
            Check.due("19 GIVING", x.at(0, 0, 0), 2);
            isLast(x, 12, 0, 0, 2);
        });
        Edge.doesNothing("11 UNDO: NOTHING by now: nothing", () -> {
            RangeHouse x = Houses.plainUndo(Houses.DROPPED);
            Check.moveWholly(x, 0, 2);
            return x;
        }, Houses.UNDO, 1);
    }

    private static void drop() {
        Check.test("13 DROP: TAKING with E: NOTHING; a DROPPED goes back", () -> {
            RangeHouse x = partTaken();
            x.undo(0);
            x.deliver(Check.last(x));
            Check.atIsNothing(x, 1, 0);
            isLast(x, 14, 0, 1, 2);
        });
        Check.test("13 DROP: READY with E: NOTHING; a DROPPED goes back", () -> {
            RangeHouse x = Houses.plainMove(Houses.END);
            x.undo(0);
            x.deliver(Check.last(x));
            Check.atIsNothing(x, 1, 0);
            isLast(x, 14, 0, 1, 2);
        });
        Check.test("13 DROP: NOTHING: a DROPPED goes back", () -> {
            RangeHouse x = Houses.plainUndo(0);
            x.deliver(Houses.DROP);
            Check.atIsNothing(x, 1, 0);
            isLast(x, 14, 0, 1, 2);
        });
        Check.test("13 DROP: TAKING with another E: it stays; a DROPPED goes back", () -> {
            RangeHouse x = secondMove();
            x.deliver(Check.last(x));
            x.deliver(12);
            Check.due("17 KIND", x.letter(12, 0), 13);
            Check.due("19 TAKING E 4", x.at(1, 0, 0) * 10 + x.at(1, 0, 1), 44);
            isLast(x, 14, 0, 1, 2);
        });
        Check.test("13 DROP: READY with another E: it stays; a DROPPED goes back", () -> {
            RangeHouse x = Houses.plainUndo(Houses.DROPPED);
            x.move(0, 1);
            x.deliver(5);
            x.step(0);
            x.deliver(Check.last(x));
            x.deliver(Houses.DROP);
            Check.due("19 READY E 4", x.at(1, 0, 0) * 10 + x.at(1, 0, 1), 54);
            isLast(x, 14, 0, 1, 2);
        });
        Check.test("13 DROP: WHOLE by another MOVE: it stays; a DROPPED goes back", () -> {
            RangeHouse x = Houses.plainUndo(Houses.DROPPED);
            Check.moveWholly(x, 0, 1);
            x.deliver(Houses.DROP);
            Check.due("19 WHOLE E 4", x.at(1, 0, 0) * 10 + x.at(1, 0, 1), 14);
            isLast(x, 14, 0, 1, 2);
        });
    }

    private static void owedNoMore() {
        Check.test("8 OPENED: OPEN is owed no more", () -> Check.due("18 owed", Houses.plainMove(Houses.OPENED).range(0, 5), 2));
        Check.test("10 GONE: GO is owed no more", () -> {
            RangeHouse x = Houses.plainMove(Houses.GO);
            x.deliver(Houses.GONE);
            Check.due("18 owed", x.range(0, 5), 1);
        });
        Check.test("12 UNDONE: UNDO is owed no more", () -> Check.due("18 owed", Houses.plainUndo(Houses.UNDONE).range(0, 5), 8));
        Check.test("14 DROPPED: DROP is owed no more", () -> {
            RangeHouse x = Houses.plainUndo(Houses.DROP);
            x.deliver(Houses.DROPPED);
            Check.due("18 owed", x.range(0, 5), 4);
        });
        Edge.doesNothing("8 OPENED: again: nothing", () -> Houses.plainMove(Houses.OPENED), Houses.OPENED, 1);
        Edge.doesNothing("10 GONE: again: nothing", () -> Houses.plainMove(Houses.GONE), Houses.GONE, 1);
        Edge.doesNothing("12 UNDONE: again: nothing", () -> Houses.plainUndo(Houses.UNDONE), Houses.UNDONE, 1);
        Edge.doesNothing("14 DROPPED: again: nothing", () -> Houses.plainUndo(Houses.DROPPED), Houses.DROPPED, 1);
        Edge.doesNothing("8 OPENED: of another E: OPEN is owed", MoveLettersTest::thirdMoveOver, Houses.OPENED, 1);
        Edge.doesNothing("10 GONE: of another E: GO is owed", MoveLettersTest::thirdMoveOver, Houses.GONE, 1);
        Edge.doesNothing("12 UNDONE: of another E: UNDO is owed", MoveLettersTest::undoneTwice, Houses.UNDONE, 1);
        Edge.doesNothing("14 DROPPED: of another E: DROP is owed", MoveLettersTest::undoneTwice, Houses.DROPPED, 1);
        Edge.doesNothing("8 OPENED: THE BOOK has the RANGE no more: nothing", MoveLettersTest::goneByMerge, Houses.OPENED, 1);
        Edge.doesNothing("10 GONE: THE BOOK has the RANGE no more: nothing", MoveLettersTest::goneByMerge, Houses.GONE, 1);
    }

    /** As thirdMove, and its DONE is delivered: OPEN and GO are owed for E 4. */
    private static RangeHouse thirdMoveOver() {
        RangeHouse x = thirdMove();
        x.deliver(Check.last(x));
        x.step(0);
        for (int i = 0; i < 3; i++) {
            x.deliver(Check.last(x));
        }
        Check.due("18 EPOCH and owed", x.range(0, 2) * 10 + x.range(0, 5), 43);
        return x;
    }

    /** A MOVE was undone by the LETTERS of plainUndo, and now one with E 4: UNDO and DROP are owed for that. */
    private static RangeHouse undoneTwice() {
        RangeHouse x = Houses.plainUndo(Houses.DROPPED);
        x.move(0, 1);
        x.undo(0);
        Check.due("18 EPOCH and owed", x.range(0, 2) * 100 + x.range(0, 5), 512);
        return x;
    }

    private static void toHostsThatAreDown() {
        int[] upTo = {-1, Houses.BEGIN_AGAIN, Houses.END, Houses.TOOK, Houses.DONE, Houses.OPEN, Houses.DONE, Houses.GO};
        int[] letters = {Houses.BEGIN, Houses.END, Houses.TOOK, Houses.DONE, Houses.OPEN, Houses.OPENED, Houses.GO, Houses.GONE};
        String[] kinds = {"3 BEGIN", "4 PART", "5 TOOK", "6 DONE", "7 OPEN", "8 OPENED", "9 GO", "10 GONE"};
        for (int i = 0; i < kinds.length; i++) {
            int n = i;
            Edge.doesNothing(kinds[i] + ": to a HOST that is DOWN: nothing, 0", () -> {
                RangeHouse x = Houses.plainMove(upTo[n]);
                return Houses.fallen(x, x.letter(letters[n], 1));
            }, letters[i], 0);
        }
        int[] undoUpTo = {0, Houses.UNDO, Houses.UNDO, Houses.DROP};
        int[] undoLetters = {Houses.UNDO, Houses.UNDONE, Houses.DROP, Houses.DROPPED};
        String[] undoKinds = {"11 UNDO", "12 UNDONE", "13 DROP", "14 DROPPED"};
        for (int i = 0; i < undoKinds.length; i++) {
            int n = i;
            Edge.doesNothing(undoKinds[i] + ": to a HOST that is DOWN: nothing, 0", () -> {
                RangeHouse x = Houses.plainUndo(undoUpTo[n]);
                return Houses.fallen(x, x.letter(undoLetters[n], 1));
            }, undoLetters[i], 0);
        }
    }
}
