/** Promises 8 and 9: move, undo; and what the LETTERS of a MOVE do. */
public final class MoveTest {
    private static final int NONE = Check.NONE;

    public static void main(String[] args) {
        moveRefused();
        wholeMove();
        partsAndChanges();
        withoutRowsFirst();
        lateBegin();
        lateParts();
        takerFalls();
        takerFallsBehindTheEnd();
        readyTakesGreaterEpoch();
        undoRefused();
        undoOfGiving();
        undoBeforeBegin();
        undoAndLateLetters();
        dropInAnyCase();
        goInAnyCase();
        openTwice();
        doneTwice();
        keptAnswersGoAlong();
        sixtyRowsGoAlong();
        Check.end("MoveTest");
    }

    private static void moveRefused() {
        RangeHouse x = new RangeHouse();
        Check.due("8: no RANGE", x.move(1, 1), -1);
        Check.due("8: no RANGE", x.move(-1, 1), -1);
        Check.due("8: no HOST", x.move(0, 6), -1);
        Check.due("8: no HOST", x.move(0, -1), -1);
        Check.due("8: its HOME", x.move(0, 0), -5);
        x.fall(0);
        Check.due("8: HOST 0 is DOWN", x.move(0, 1), -4);
        Check.due("8: DOWN before STATE", x.move(0, 0), -4);
        x.rise(0);
        x.fall(5);
        Check.due("8: to HOST 5 that is DOWN", x.move(0, 5), 2);
        Check.letterIs(x, 0, 3, 0, 0, 0, 2, NONE, NONE, NONE, NONE);
        Check.rangeIs(x, 0, 0, 10000, 1, 0, 5, 0, 0);
        Check.due("8: not FREE", x.move(0, 1), -5);
        Check.due("8: one LETTER", x.status(3), 1);
        Check.due("8: status(15)", x.status(15), 2);
    }

    private static void wholeMove() {
        RangeHouse x = Check.withRows(7);
        Check.due("8: move(0, 3)", x.move(0, 3), 2);
        Check.letterIs(x, 2, 3, 0, 0, 0, 2, NONE, NONE, NONE, NONE);
        Check.due("BEGIN", x.deliver(2), 1);
        Check.atIs(x, 0, 0, 2, 1, 1, 0, 10000, 1, 0, 1, 1);
        Check.due("BEGIN again, PART", x.step(0), 2);
        Check.letterIs(x, 3, 3, 0, 0, 0, 2, NONE, NONE, NONE, NONE);
        Check.letterIs(x, 4, 4, 3, 0, 0, 2, NONE, 1, 0, 1);
        Check.atIs(x, 0, 0, 2, 1, 1, 0, 10000, 1, 0, 0, 1);
        x.deliver(4);
        Check.letterIs(x, 5, 5, 0, 3, 0, 2, NONE, 1, 0, NONE);
        Check.atIs(x, 3, 0, 4, 2, 1, 0, 10000, 1, 1, NONE, 0);
        Check.due("row", x.row(3, 0, 7), 8);
        x.deliver(5);
        Check.due("PART is 1 more", x.at(0, 0, 6), 1);
        x.step(0);
        Check.letterIs(x, 7, 4, 3, 0, 0, 2, NONE, 1, 1, -1);
        Check.atIs(x, 0, 0, 3, 1, 1, 0, 10000, 1, 1, NONE, 1);
        x.deliver(7);
        Check.letterIs(x, 8, 5, 0, 3, 0, 2, NONE, 1, 1, NONE);
        Check.atIs(x, 3, 0, 5, 2, 1, 0, 10000, NONE, NONE, NONE, 1);
        x.deliver(8);
        Check.letterIs(x, 9, 6, 0, 0, 0, 2, NONE, NONE, NONE, NONE);
        Check.due("PART is 1 more", x.at(0, 0, 6), 2);
        Check.due("the MOVE is under way", x.range(0, 4), 3);
        x.deliver(9);
        Check.letterIs(x, 10, 7, 3, 0, 0, 2, NONE, NONE, NONE, NONE);
        Check.letterIs(x, 11, 9, 0, 0, 0, 2, NONE, NONE, NONE, NONE);
        Check.rangeIs(x, 0, 0, 10000, 2, 3, NONE, 3, 0);
        Check.due("24: MOVES over", x.status(6), 1);
        x.deliver(10);
        Check.letterIs(x, 12, 8, 0, 3, 0, 2, NONE, NONE, NONE, NONE);
        Check.atIs(x, 3, 0, 1, 2, 1, 0, 10000, NONE, NONE, NONE, 1);
        x.deliver(12);
        Check.rangeIs(x, 0, 0, 10000, 2, 3, NONE, 2, 0);
        x.deliver(11);
        Check.letterIs(x, 13, 10, 0, 0, 0, 2, NONE, NONE, NONE, NONE);
        Check.atIsNothing(x, 0, 0);
        Check.due("row", x.row(0, 0, 7), 0);
        x.deliver(13);
        Check.rangeIs(x, 0, 0, 10000, 2, 3, NONE, 0, 1);
        Check.due("nothing more is sent", x.step(0) + x.step(3), 0);
        Check.due("14 LETTERS", x.status(3), 14);
    }

    private static void partsAndChanges() {
        RangeHouse x = Check.withRows(40, 10, 30, 20);
        x.move(0, 1);
        int l = Check.last(x);
        x.deliver(l);
        Check.due("4 KEYS to be sent", x.at(0, 0, 7), 4);
        x.step(0);
        Check.due("17: 3 KEYS in a PART", x.letter(l + 2, 10), 3);
        Check.due("1 KEY to be sent", x.at(0, 0, 7), 1);
        Check.done(x, 0, 3, 10, 100, 0);
        Check.due("a KEY that was sent is to be sent", x.at(0, 0, 7), 2);
        Check.done(x, 0, 1, 40, 5, 0);
        Check.due("a KEY that was not sent is to be sent once", x.at(0, 0, 7), 2);
        Check.done(x, 0, 0, 20, 0, 0);
        Check.done(x, 0, 2, 21, 0, 0);
        Check.done(x, 0, 4, 20, 7, 8);
        Check.due("what changes no ROW is not", x.at(0, 0, 7), 2);
        Check.done(x, 0, 4, 20, 21, 21);
        Check.due("a SWAP that swaps is", x.at(0, 0, 7), 3);
        Check.done(x, 0, 2, 30, 0, 0);
        Check.due("a STRIKE is", x.at(0, 0, 7), 4);
        int again = x.status(3) + 1;
        x.step(0);
        Check.letterIs(x, again, 4, 1, 0, 0, 2, NONE, 1, 0, 3);
        x.deliver(again);
        Check.due("as it was", x.row(1, 0, 10), 11);
        Check.due("as it was", x.row(1, 0, 30), 31);
        Check.due("the least first", x.row(1, 0, 40), 0);
        Check.due("TAKING has 3 ROWS", x.at(1, 0, 2), 3);
        x.deliver(Check.last(x));
        x.step(0);
        Check.letterIs(x, Check.last(x), 4, 1, 0, 0, 2, NONE, 1, 1, 3);
        x.deliver(Check.last(x));
        x.deliver(Check.last(x));
        Check.due("30 without a ROW, 10, 20", x.row(1, 0, 10), 111);
        Check.due("30 without a ROW, 10, 20", x.row(1, 0, 20), 21);
        Check.due("TAKING has 2 ROWS", x.at(1, 0, 2), 2);
        x.step(0);
        Check.letterIs(x, Check.last(x), 4, 1, 0, 0, 2, NONE, 1, 2, 1);
        x.deliver(Check.last(x));
        x.deliver(Check.last(x));
        Check.due("40", x.row(1, 0, 40), 5);
        x.step(0);
        Check.letterIs(x, Check.last(x), 4, 1, 0, 0, 2, NONE, 1, 3, -1);
    }

    private static void withoutRowsFirst() {
        RangeHouse x = Check.withRows(5, 6, 7, 8);
        x.move(0, 1);
        x.deliver(Check.last(x));
        x.step(0);
        x.deliver(Check.last(x));
        x.deliver(Check.last(x));
        Check.done(x, 0, 1, 1, 70, 0);
        Check.done(x, 0, 2, 7, 0, 0);
        Check.done(x, 0, 2, 5, 0, 0);
        Check.done(x, 0, 2, 6, 0, 0);
        Check.due("1, 5, 6, 7, 8 are to be sent", x.at(0, 0, 7), 5);
        x.step(0);
        Check.due("1 and 8 are left", x.at(0, 0, 7), 2);
        x.deliver(Check.last(x));
        x.deliver(Check.last(x));
        Check.due("5, 6, 7 went", x.at(1, 0, 2), 0);
        Check.done(x, 0, 2, 8, 0, 0);
        Check.done(x, 0, 1, 5, 71, 0);
        x.step(0);
        x.deliver(Check.last(x));
        Check.due("1, 5 and the STRIKE of 8", x.at(1, 0, 2), 2);
        Check.due("row(1, 0, 5)", x.row(1, 0, 5), 71);
        Check.due("none are left", x.at(0, 0, 7), 0);
    }

    private static void lateBegin() {
        RangeHouse x = Check.withRows(1, 2, 3, 4);
        x.move(0, 1);
        int begin = Check.last(x);
        x.deliver(begin);
        x.step(0);
        Check.due("1 KEY is left", x.at(0, 0, 7), 1);
        x.deliver(begin);
        Check.atIs(x, 0, 0, 2, 1, 4, 0, 10000, 1, 0, 1, 4);
        Check.deliverFrom(x, begin);
        for (int i = 0; i < 4; i++) {
            x.step(0);
            Check.deliverFrom(x, begin);
        }
        Check.due("FREE at 1", x.range(0, 6), 1);
        Check.due("no LETTER of a BEGIN to a HOST that has it no more", x.status(3), begin(x, begin));
        Check.atIsNothing(x, 0, 0);
    }

    private static int begin(RangeHouse x, int letter) {
        int sent = x.status(3);
        x.deliver(letter);
        return sent;
    }

    private static void lateParts() {
        RangeHouse x = Check.withRows(1, 2, 3, 4, 5, 6, 7);
        x.move(0, 1);
        x.deliver(Check.last(x));
        x.step(0);
        int first = Check.last(x);
        x.deliver(first);
        x.deliver(first);
        Check.letterIs(x, Check.last(x), 5, 0, 1, 0, 2, NONE, 1, 0, NONE);
        Check.due("m is less: not taken, but TOOK", x.status(3), first + 3);
        Check.due("the next one", x.at(1, 0, 6), 1);
        x.deliver(first + 1);
        Check.due("PART 1", x.at(0, 0, 6), 1);
        x.deliver(first + 2);
        Check.due("a TOOK of what was TOOK does nothing", x.at(0, 0, 6), 1);
        x.step(0);
        int second = Check.last(x);
        x.deliver(first + 2);
        Check.due("a TOOK of an earlier PART does nothing", x.at(0, 0, 6), 1);
        x.fall(1);
        Check.due("0 as it is DOWN", x.deliver(second), 0);
        Check.due("6: it came all the same", x.letter(second, 6), 1);
        x.rise(1);
        x.deliver(second);
        Check.letterIs(x, Check.last(x), 5, 0, 1, 0, 2, NONE, 1, -1, NONE);
        x.deliver(first);
        Check.letterIs(x, Check.last(x), 5, 0, 1, 0, 2, NONE, 1, -1, NONE);
        Check.atIsNothing(x, 1, 0);

        // a PART that comes before the one in front of it is not taken
        RangeHouse y = Check.withRows(1, 2, 3, 4, 5, 6, 7);
        y.split(0, 4);
        y.move(0, 1);
        y.deliver(Check.last(y));
        y.step(0);
        int part = Check.last(y);
        y.deliver(part);
        y.deliver(Check.last(y));
        y.step(0);
        int end = Check.last(y);
        Check.due("the END", y.letter(end, 10), -1);
        y.fall(1);
        y.rise(1);
        y.deliver(end);
        Check.due("asked for a new ATTEMPT", y.letter(Check.last(y), 9), -1);
        y.deliver(Check.last(y));
        Check.atIs(y, 0, 0, 2, 2, 3, 0, 4, 2, 0, 3, 4);
        y.step(0);
        y.deliver(Check.last(y));
        int sent = y.status(3);
        y.deliver(end);
        Check.due("TAKING another ATTEMPT: nothing", y.status(3), sent);
        Check.atIs(y, 1, 0, 4, 3, 3, 0, 4, 2, 1, NONE, 0);
    }

    private static void takerFalls() {
        RangeHouse x = Check.withRows(1, 2, 3, 4);
        x.move(0, 1);
        x.deliver(Check.last(x));
        x.step(0);
        int first = Check.last(x);
        x.deliver(first);
        x.deliver(first + 1);
        Check.due("15: one was TAKING", x.fall(1), 1);
        Check.atIsNothing(x, 1, 0);
        x.rise(1);
        Check.done(x, 0, 2, 2, 0, 0);
        x.step(0);
        int second = Check.last(x);
        Check.due("2 KEYS", x.letter(second, 10), 2);
        x.deliver(second);
        int anew = Check.last(x);
        Check.letterIs(x, anew, 5, 0, 1, 0, 2, NONE, 1, -1, NONE);
        x.deliver(anew);
        Check.atIs(x, 0, 0, 2, 1, 3, 0, 10000, 2, 0, 3, 4);
        x.deliver(anew);
        Check.due("of another ATTEMPT: nothing", x.at(0, 0, 5), 2);
        x.step(0);
        Check.letterIs(x, Check.last(x), 4, 1, 0, 0, 2, NONE, 2, 0, 3);
        x.deliver(Check.last(x));
        Check.atIs(x, 1, 0, 4, 2, 3, 0, 10000, 2, 1, NONE, 0);
        int sent = x.status(3);
        x.deliver(first);
        Check.due("an earlier ATTEMPT: nothing", x.status(3), sent);
        x.deliver(first + 1);
        Check.due("a TOOK of an earlier ATTEMPT: nothing", x.at(0, 0, 6), 0);
        x.deliver(sent - 1);
        x.step(0);
        x.deliver(Check.last(x));
        Check.due("READY", x.at(1, 0, 0), 5);
        sent = x.status(3);
        x.deliver(first);
        Check.letterIs(x, sent, 5, 0, 1, 0, 2, NONE, 1, 0, NONE);
        Check.due("READY with E: a TOOK with the LETTER's ATTEMPT and m", x.status(3), sent + 1);
    }

    private static void takerFallsBehindTheEnd() {
        RangeHouse x = Check.withRows(1);
        x.move(0, 1);
        x.deliver(Check.last(x));
        x.step(0);
        x.deliver(Check.last(x));
        x.deliver(Check.last(x));
        x.step(0);
        int end = Check.last(x);
        x.fall(1);
        x.rise(1);
        x.deliver(end);
        Check.due("CLOSED", x.at(0, 0, 0), 3);
        int anew = Check.last(x);
        x.deliver(anew);
        Check.atIs(x, 0, 0, 2, 1, 1, 0, 10000, 2, 0, 1, 1);
        x.step(0);
        x.deliver(Check.last(x));
        x.deliver(Check.last(x));
        x.step(0);
        x.deliver(Check.last(x));
        Check.due("15: READY stays", x.fall(1), 0);
        x.rise(1);
        Check.due("15: READY stays", x.at(1, 0, 0), 5);
        x.deliver(Check.last(x));
        Check.due("a DONE", x.letter(Check.last(x), 0), 6);

        // behind the TOOK of the END no new ATTEMPT is begun
        RangeHouse y = Check.withRows(1);
        y.move(0, 1);
        y.deliver(Check.last(y));
        y.step(0);
        int part = Check.last(y);
        y.deliver(part);
        y.fall(1);
        y.rise(1);
        y.deliver(part);
        int none = Check.last(y);
        Check.due("a TOOK with -1", y.letter(none, 9), -1);
        y.deliver(none);
        y.step(0);
        y.deliver(Check.last(y));
        int late = y.status(3);
        y.fall(1);
        y.rise(1);
        y.deliver(late - 2);
        Check.letterIs(y, late, 5, 0, 1, 0, 2, NONE, 2, -1, NONE);
        y.deliver(late - 1);
        y.step(0);
        y.deliver(Check.last(y));
        y.deliver(late);
        Check.due("ATTEMPT 3", y.at(0, 0, 5), 3);
        for (int i = 0; i < 2; i++) {
            y.step(0);
            y.deliver(Check.last(y));
            y.deliver(Check.last(y));
        }
        Check.due("a DONE", y.letter(Check.last(y), 0), 6);
        Check.atIs(y, 0, 0, 3, 1, 1, 0, 10000, 3, 2, NONE, 1);
    }

    /** The END of an undone MOVE came behind the DROP: what it left gives way to a greater E. */
    private static void readyTakesGreaterEpoch() {
        RangeHouse x = new RangeHouse();
        x.caller();
        Check.done(x, 0, 0, 1, 0, 0);
        x.move(0, 1);
        int begin = Check.last(x);
        x.deliver(begin);
        x.step(0);
        int end = Check.last(x);
        x.undo(0);
        Check.deliverFrom(x, end + 1);
        Check.due("FREE", x.range(0, 6), 1);
        x.deliver(end);
        Check.atIs(x, 1, 0, 5, 2, 0, 0, 10000, NONE, NONE, NONE, 1);
        Check.due("15: READY stays", x.fall(1), 0);
        x.rise(1);
        x.split(0, 100);
        x.learn(0);
        Check.done(x, 0, 1, 1, 5, 0);
        Check.due("21: READY does not weigh", x.weight(1), 0);
        Check.due("8: move(0, 1)", x.move(0, 1), 5);
        x.deliver(Check.last(x));
        x.step(0);
        x.deliver(Check.last(x));
        Check.atIs(x, 1, 0, 4, 5, 1, 0, 100, 1, 1, NONE, 0);
        Check.due("21: TAKING does not weigh", x.weight(1), 0);
        int sent = x.status(3);
        x.deliver(end);
        Check.due("TAKING with a greater E: nothing", x.status(3), sent);
        x.deliver(sent - 1);
        x.step(0);
        x.deliver(Check.last(x));
        Check.atIs(x, 1, 0, 5, 5, 1, 0, 100, NONE, NONE, NONE, 2);
        sent = x.status(3);
        x.deliver(end);
        Check.due("READY with a greater E: nothing", x.status(3), sent);
    }

    private static void undoRefused() {
        RangeHouse x = new RangeHouse();
        Check.due("9: no RANGE", x.undo(1), -1);
        Check.due("9: no RANGE", x.undo(-1), -1);
        Check.due("9: no MOVE", x.undo(0), -5);
        x.move(0, 1);
        x.fall(0);
        Check.due("9: HOST 0 is DOWN", x.undo(0), -4);
        x.rise(0);
        Check.due("9: undo(0)", x.undo(0), 3);
        Check.due("9: no MOVE any more", x.undo(0), -5);
        x.fall(0);
        Check.due("9: DOWN before STATE", x.undo(0), -4);
        Check.due("24: undone", x.status(7), 1);
        Check.due("24: over", x.status(6), 0);
    }

    private static void undoOfGiving() {
        RangeHouse x = Check.withRows(1, 2);
        x.move(0, 2);
        x.deliver(Check.last(x));
        x.step(0);
        int part = Check.last(x);
        x.deliver(part);
        int l = x.status(3);
        Check.due("9: undo(0)", x.undo(0), 3);
        Check.rangeIs(x, 0, 0, 10000, 3, 0, NONE, 12, 0);
        Check.letterIs(x, l, 11, 0, 0, 0, 2, NONE, NONE, NONE, NONE);
        Check.letterIs(x, l + 1, 13, 2, 0, 0, 2, NONE, NONE, NONE, NONE);
        Check.due("GIVING till the UNDO comes", x.at(0, 0, 0), 2);
        x.deliver(l);
        Check.letterIs(x, l + 2, 12, 0, 0, 0, 2, NONE, NONE, NONE, NONE);
        Check.atIs(x, 0, 0, 1, 3, 2, 0, 10000, NONE, NONE, NONE, 2);
        x.deliver(l + 1);
        Check.letterIs(x, l + 3, 14, 0, 2, 0, 2, NONE, NONE, NONE, NONE);
        Check.atIsNothing(x, 2, 0);
        x.deliver(l + 2);
        Check.due("DROP is owed", x.range(0, 5), 8);
        x.deliver(l + 3);
        Check.rangeIs(x, 0, 0, 10000, 3, 0, NONE, 0, 1);
        Check.due("18: the BOOK's EPOCH", x.move(0, 2), 4);
        x.deliver(Check.last(x));
        Check.due("all KEYS to be sent", x.at(0, 0, 7), 2);
        Check.due("PART 0", x.at(0, 0, 6), 0);
        x.step(0);
        Check.letterIs(x, Check.last(x), 4, 2, 0, 0, 4, NONE, 1, 0, 2);
        x.deliver(Check.last(x));
        Check.due("a greater E is TAKING", x.at(2, 0, 1), 4);
        x.deliver(part);
        Check.due("a lesser E is not", x.at(2, 0, 1), 4);
    }

    private static void undoBeforeBegin() {
        RangeHouse x = new RangeHouse();
        x.move(0, 1);
        x.undo(0);
        x.deliver(1);
        Check.atIs(x, 0, 0, 1, 3, 0, 0, 10000, NONE, NONE, NONE, 0);
        x.deliver(0);
        Check.due("a BEGIN of an undone MOVE does nothing", x.at(0, 0, 0), 1);
        x.deliver(1);
        Check.due("an UNDO again: UNDONE again", x.letter(4, 0), 12);
        Check.due("EPOCH F", x.at(0, 0, 1), 3);

        // the BEGIN comes in front of the UNDO
        RangeHouse y = new RangeHouse();
        y.move(0, 1);
        y.undo(0);
        y.deliver(0);
        Check.due("GIVING", y.at(0, 0, 0), 2);
        y.step(0);
        Check.due("CLOSED", y.at(0, 0, 0), 3);
        y.deliver(1);
        Check.atIs(y, 0, 0, 1, 3, 0, 0, 10000, NONE, NONE, NONE, 0);
    }

    private static void undoAndLateLetters() {
        RangeHouse x = Check.withRows(1);
        x.move(0, 1);
        int begin = Check.last(x);
        x.deliver(begin);
        x.step(0);
        x.deliver(Check.last(x));
        x.deliver(Check.last(x));
        x.step(0);
        int end = Check.last(x);
        x.deliver(end);
        x.deliver(Check.last(x));
        int done = Check.last(x);
        Check.due("a DONE", x.letter(done, 0), 6);
        x.undo(0);
        int sent = x.status(3);
        x.deliver(done);
        Check.due("a DONE of an undone MOVE does nothing", x.status(3), sent);
        Check.due("HOME", x.range(0, 3), 0);
        Check.due("24: over", x.status(6), 0);
        x.deliver(sent - 2);
        Check.due("CLOSED is WHOLE with F", x.at(0, 0, 1), 3);
        Check.due("CLOSED is WHOLE with F", x.at(0, 0, 0), 1);
        x.deliver(sent - 1);
        Check.atIsNothing(x, 1, 0);
        Check.deliverFrom(x, sent);
        Check.due("FREE", x.range(0, 6), 1);
        Check.moveWholly(x, 0, 1);
        Check.due("E is 4", x.range(0, 2), 4);
        int before = x.status(3);
        x.deliver(sent - 2);
        Check.due("an UNDO to a HOST that has it as NOTHING: nothing", x.status(3), before);
        x.deliver(sent - 1);
        Check.due("a DROP of another E drops nothing", x.at(1, 0, 0), 1);
        Check.letterIs(x, before, 14, 0, 1, 0, 2, NONE, NONE, NONE, NONE);
    }

    private static void dropInAnyCase() {
        RangeHouse x = Check.withRows(1);
        x.move(0, 1);
        x.deliver(Check.last(x));
        x.step(0);
        int part = Check.last(x);
        x.undo(0);
        int drop = Check.last(x);
        x.deliver(drop);
        Check.due("DROPPED in any case", x.letter(Check.last(x), 0), 14);
        x.deliver(Check.last(x));
        Check.due("UNDO is owed", x.range(0, 5), 4);
        x.deliver(part);
        Check.due("a late PART is TAKING", x.at(1, 0, 0), 4);
        x.deliver(drop);
        Check.atIsNothing(x, 1, 0);
        x.deliver(part);
        Check.due("PAST stays", x.at(1, 0, 0), 0);
        Check.due("PAST stays", x.letter(Check.last(x), 9), -1);
    }

    private static void goInAnyCase() {
        RangeHouse x = Check.withRows(1);
        int first = x.status(3);
        Check.moveWholly(x, 0, 1);
        int go = first;
        while (x.letter(go, 0) != 9) {
            go++;
        }
        int sent = x.status(3);
        x.deliver(go);
        Check.letterIs(x, sent, 10, 0, 0, 0, 2, NONE, NONE, NONE, NONE);
        x.deliver(sent);
        Check.due("FREE", x.range(0, 6), 1);
        Check.moveWholly(x, 0, 0);
        x.move(0, 1);
        x.deliver(Check.last(x));
        x.deliver(go);
        Check.due("GIVING stays", x.at(0, 0, 0), 2);
        x.step(0);
        x.deliver(Check.last(x));
        x.deliver(Check.last(x));
        x.step(0);
        Check.due("CLOSED", x.at(0, 0, 0), 3);
        x.deliver(go);
        Check.due("CLOSED for another MOVE stays", x.at(0, 0, 0), 3);
    }

    private static void openTwice() {
        RangeHouse x = Check.withRows(1);
        int first = x.status(3);
        Check.moveWholly(x, 0, 1);
        int open = first;
        while (x.letter(open, 0) != 7) {
            open++;
        }
        int sent = x.status(3);
        x.deliver(open);
        Check.letterIs(x, sent, 8, 0, 1, 0, 2, NONE, NONE, NONE, NONE);
        x.move(0, 2);
        x.deliver(Check.last(x));
        Check.due("GIVING", x.at(1, 0, 0), 2);
        sent = x.status(3);
        x.deliver(open);
        Check.due("GIVING with E: OPENED", x.letter(sent, 0), 8);
        x.step(1);
        x.deliver(Check.last(x));
        x.deliver(Check.last(x));
        x.step(1);
        Check.due("CLOSED", x.at(1, 0, 0), 3);
        sent = x.status(3);
        x.deliver(open);
        Check.due("CLOSED with E: OPENED", x.letter(sent, 0), 8);
        Check.deliverFrom(x, first);
        Check.due("FREE at 2", x.range(0, 6) * 10 + x.range(0, 3), 12);
        sent = x.status(3);
        x.deliver(open);
        Check.due("NOTHING: nothing", x.status(3), sent);
        Check.moveWholly(x, 0, 1);
        sent = x.status(3);
        x.deliver(open);
        Check.due("WHOLE with another EPOCH: nothing", x.status(3), sent);
    }

    private static void doneTwice() {
        RangeHouse x = Check.withRows(1);
        x.move(0, 1);
        x.deliver(Check.last(x));
        for (int i = 0; i < 2; i++) {
            x.step(0);
            x.deliver(Check.last(x));
            x.deliver(Check.last(x));
        }
        int done = Check.last(x);
        Check.due("a BEGIN and a DONE again", x.step(0), 2);
        Check.letterIs(x, Check.last(x), 6, 0, 0, 0, 2, NONE, NONE, NONE, NONE);
        int second = Check.last(x);
        x.deliver(done);
        int sent = x.status(3);
        x.deliver(second);
        x.deliver(done);
        Check.due("the MOVE is over: nothing", x.status(3), sent);
        Check.due("24: MOVES over", x.status(6), 1);
        Check.deliverFrom(x, sent - 2);
        Check.due("FREE", x.range(0, 6), 1);
        x.move(0, 0);
        x.deliver(done);
        Check.due("a DONE with another E does nothing", x.range(0, 4), 0);
    }

    private static void keptAnswersGoAlong() {
        RangeHouse x = new RangeHouse();
        x.caller();
        x.caller();
        for (int i = 0; i < 5; i++) {
            Check.done(x, 0, 3, 9, 1, 0);
        }
        Check.done(x, 1, 3, 9, 1, 0);
        Check.moveWholly(x, 0, 5);
        Check.due("5 KEPT ANSWERS", x.at(5, 0, 8), 5);
        x.learn(0);
        x.learn(1);
        for (int i = 0; i < 5; i++) {
            int l = x.again(0, i);
            x.deliver(l);
            Check.due("an ANSWER of those of 4", x.status(3), i == 0 ? l + 1 : l + 2);
        }
        x.again(1, 0);
        x.deliver(Check.last(x));
        Check.letterIs(x, Check.last(x), 1, 1, 5, NONE, NONE, 0, NONE, NONE, NONE);
        Check.due("none is DONE twice", x.status(4), 6);
        Check.due("none is DONE twice", x.row(5, 0, 9), 6);
    }

    /** ROWS are struck and written while 60 go: none is lost, and the taker never has more than 60. */
    private static void sixtyRowsGoAlong() {
        RangeHouse x = Houses.withRowsFrom100(60);
        x.move(0, 1);
        x.deliver(Check.last(x));
        int parts = 0;
        for (; x.at(0, 0, 0) == 2 && parts < 60; parts++) {
            x.step(0);
            if (parts >= 10 && parts < 20) {
                Check.done(x, 1, 2, 90 + parts, 0, 0);
                Check.done(x, 1, 1, parts, 7, 0);
                x.step(0);
            }
            int part = Check.last(x);
            x.deliver(part);
            x.deliver(part + 1);
            Check.holds("60 ROWS at most", x.at(1, 0, 2) <= 60);
        }
        Check.due("DONE", x.letter(Check.last(x), 0), 6);
        Check.due("60 ROWS are READY", x.at(1, 0, 2), 60);
        Check.deliverFrom(x, x.status(3) - 1);
        Check.due("FREE at 1", x.range(0, 6) * 10 + x.range(0, 3), 11);
        for (int key = 9; key < 161; key = key == 20 ? 99 : key + 1) {
            long want = key >= 10 && key < 20 ? 7 : key >= 110 && key < 160 ? key + 1 : 0;
            Check.due("20: row(1, 0, " + key + ")", x.row(1, 0, key), want);
        }
    }
}
