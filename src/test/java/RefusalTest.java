/**
 * Each REFUSAL that a promise names, alone and two at once: the first in the document's order is the
 * answer, it alone is counted, once, and nothing else is changed.
 */
public final class RefusalTest {
    private static final int NOBODY = -1;
    private static final int OTHER = -2;
    private static final int BEYOND = -3;
    private static final int DOWN = -4;
    private static final int STATE = -5;
    private static final int ROOM = -6;

    public static void main(String[] args) {
        caller();
        call();
        callTwoAtOnce();
        again();
        learn();
        move();
        moveTwoAtOnce();
        undo();
        split();
        splitTwoAtOnce();
        merge();
        mergeTwoAtOnce();
        step();
        deliverAndLose();
        fallAndRise();
        nobodyTwice();
        Check.end("RefusalTest");
    }

    private static RangeHouse full() {
        return Houses.withLetters(1200);
    }

    private static RangeHouse fullAndDown() {
        return Houses.fallen(full(), 0);
    }

    private static RangeHouse down() {
        return Houses.fallen(Houses.withRanges(2), 0);
    }

    /** RANGES 0 (to 100) and 1 (to 10000); RANGE 1 at HOST 3. */
    private static RangeHouse twoHomes() {
        RangeHouse x = Houses.withRanges(2);
        Check.moveWholly(x, 1, 3);
        return x;
    }

    private static RangeHouse twoHomesOneDown() {
        return Houses.fallen(twoHomes(), 3);
    }

    /** RANGES 0, 1, 2, of which 1 is in a MOVE. */
    private static RangeHouse oneMoves() {
        RangeHouse x = Houses.withRanges(3);
        x.move(1, 2);
        return x;
    }

    private static RangeHouse oneMovesDown() {
        return Houses.fallen(oneMoves(), 0);
    }

    private static void caller() {
        Edge.refused("2 caller -4: HOST 0 is DOWN", () -> Houses.fallen(Houses.withCallers(5), 0), x -> x.caller(), DOWN);
        Edge.refused("2 caller -6: there are six", () -> Houses.withCallers(6), x -> x.caller(), ROOM);
        Edge.refused("2 caller -4 before -6", () -> Houses.fallen(Houses.withCallers(6), 0), x -> x.caller(), DOWN);
    }

    private static void call() {
        Edge.refused("3 call -1: no CALLER", RangeHouse::new, x -> x.call(0, 0, 0, 0, 0), NOBODY);
        Edge.refused("3 call -2: no kind", () -> Houses.withCallers(1), x -> x.call(0, 5, 0, 0, 0), OTHER);
        Edge.refused("3 call -3: no KEY", () -> Houses.withCallers(1), x -> x.call(0, 0, 10000, 0, 0), BEYOND);
        Edge.refused("3 call -6: 60 CALLS", () -> Houses.withCalls(60), x -> x.call(0, 0, 5, 0, 0), ROOM);
        Edge.refused("3 call -6: 1200 LETTERS", RefusalTest::full, x -> x.call(1, 0, 5, 0, 0), ROOM);
        Edge.refused("3 call -6: 60 CALLS and 1200 LETTERS, counted once", RefusalTest::fullWithSixtyCalls,
            x -> x.call(0, 0, 5, 0, 0), ROOM);
    }

    private static RangeHouse fullWithSixtyCalls() {
        RangeHouse x = Houses.withLetters(1140);
        int calls = 0;
        while (x.call(0, 0, 5, 0, 0) >= 0 && calls < 60) {
            calls++;
        }
        for (int sent = x.status(3); sent < 1200; sent++) {
            x.again(0, 0);
        }
        return x;
    }

    private static void callTwoAtOnce() {
        Edge.refused("3 call -1 before -2", RangeHouse::new, x -> x.call(0, 5, 0, 0, 0), NOBODY);
        Edge.refused("3 call -1 before -3", RangeHouse::new, x -> x.call(0, 0, 10000, 0, 0), NOBODY);
        Edge.refused("3 call -1 before -6", RefusalTest::full, x -> x.call(2, 0, 0, 0, 0), NOBODY);
        Edge.refused("3 call -2 before -3", () -> Houses.withCallers(1), x -> x.call(0, -1, -1, 0, 0), OTHER);
        Edge.refused("3 call -2 before -6 of CALLS", () -> Houses.withCalls(60), x -> x.call(0, 5, 0, 0, 0), OTHER);
        Edge.refused("3 call -2 before -6 of LETTERS", RefusalTest::full, x -> x.call(0, 5, 0, 0, 0), OTHER);
        Edge.refused("3 call -3 before -6 of CALLS", () -> Houses.withCalls(60), x -> x.call(0, 0, -1, 0, 0), BEYOND);
        Edge.refused("3 call -3 before -6 of LETTERS", RefusalTest::full, x -> x.call(0, 0, 10000, 0, 0), BEYOND);
    }

    private static void again() {
        Edge.refused("4 again -1: no CALLER", RangeHouse::new, x -> x.again(0, 0), NOBODY);
        Edge.refused("4 again -1: no count", () -> Houses.withCallers(1), x -> x.again(0, 0), NOBODY);
        Edge.refused("4 again -6: 1200 LETTERS", RefusalTest::full, x -> x.again(0, 0), ROOM);
        Edge.refused("4 again -1 (no CALLER) before -6", RefusalTest::full, x -> x.again(2, 0), NOBODY);
        Edge.refused("4 again -1 (no count) before -6", RefusalTest::full, x -> x.again(1, 0), NOBODY);
    }

    private static void learn() {
        Edge.refused("6 learn -1: no CALLER", RangeHouse::new, x -> x.learn(0), NOBODY);
        Edge.refused("6 learn -4: HOST 0 is DOWN", RefusalTest::stale, x -> x.learn(0), DOWN);
        Edge.refused("6 learn -1 before -4", RefusalTest::stale, x -> x.learn(1), NOBODY);
    }

    /** One CALLER whose COPY is not as THE BOOK, and HOST 0 DOWN. */
    private static RangeHouse stale() {
        RangeHouse x = Houses.withCallers(1);
        x.split(0, 100);
        return Houses.fallen(x, 0);
    }

    private static void move() {
        Edge.refused("8 move -1: no RANGE", RangeHouse::new, x -> x.move(1, 1), NOBODY);
        Edge.refused("8 move -1: no HOST", RangeHouse::new, x -> x.move(0, 6), NOBODY);
        Edge.refused("8 move -4: HOST 0 is DOWN", RefusalTest::down, x -> x.move(0, 1), DOWN);
        Edge.refused("8 move -5: a MOVE is under way", RefusalTest::oneMoves, x -> x.move(1, 3), STATE);
        Edge.refused("8 move -5: a MOVE to this HOST is under way", RefusalTest::oneMoves, x -> x.move(1, 2), STATE);
        Edge.refused("8 move -5: OPEN is owed", () -> owed(1), x -> x.move(0, 2), STATE);
        Edge.refused("8 move -5: GO is owed", () -> owed(2), x -> x.move(0, 2), STATE);
        Edge.refused("8 move -5: UNDO is owed", () -> owed(4), x -> x.move(0, 2), STATE);
        Edge.refused("8 move -5: DROP is owed", () -> owed(8), x -> x.move(0, 2), STATE);
        Edge.refused("8 move -5: HOST 0 is its HOME", RangeHouse::new, x -> x.move(0, 0), STATE);
        Edge.refused("8 move -5: HOST 3 is its HOME", RefusalTest::twoHomes, x -> x.move(1, 3), STATE);
        Edge.refused("8 move -5: it is its HOME and not FREE, counted once", RefusalTest::oneMoves, x -> x.move(1, 0), STATE);
        Edge.refused("8 move -6: 1200 LETTERS", RefusalTest::full, x -> x.move(39, 1), ROOM);
    }

    /** RANGE 0, of which just this is owed. */
    private static RangeHouse owed(int what) {
        RangeHouse x = what < 4 ? Houses.plainMove(Houses.GO) : Houses.plainUndo(Houses.DROP);
        if (what < 4) {
            x.deliver(what == 1 ? Houses.GONE : Houses.OPENED);
        } else {
            x.deliver(what == 4 ? Houses.DROPPED : Houses.UNDONE);
        }
        Check.due("18 what is owed", x.range(0, 5), what);
        return x;
    }

    private static void moveTwoAtOnce() {
        Edge.refused("8 move -1 (no RANGE) before -4", RefusalTest::down, x -> x.move(2, 1), NOBODY);
        Edge.refused("8 move -1 (no HOST) before -4", RefusalTest::down, x -> x.move(0, 6), NOBODY);
        Edge.refused("8 move -1 (no HOST) before -5", RefusalTest::oneMoves, x -> x.move(1, -1), NOBODY);
        Edge.refused("8 move -1 (no RANGE) before -6", RefusalTest::full, x -> x.move(40, 1), NOBODY);
        Edge.refused("8 move -1 (no HOST) before -6", RefusalTest::full, x -> x.move(39, 6), NOBODY);
        Edge.refused("8 move -4 before -5 (not FREE)", RefusalTest::oneMovesDown, x -> x.move(1, 3), DOWN);
        Edge.refused("8 move -4 before -5 (its HOME)", RefusalTest::down, x -> x.move(0, 0), DOWN);
        Edge.refused("8 move -4 before -6", RefusalTest::fullAndDown, x -> x.move(39, 1), DOWN);
        Edge.refused("8 move -5 (not FREE) before -6", RefusalTest::full, x -> x.move(0, 1), STATE);
        Edge.refused("8 move -5 (its HOME) before -6", RefusalTest::full, x -> x.move(39, 0), STATE);
    }

    private static void undo() {
        Edge.refused("9 undo -1: no RANGE", RefusalTest::oneMoves, x -> x.undo(3), NOBODY);
        Edge.refused("9 undo -4: HOST 0 is DOWN", RefusalTest::oneMovesDown, x -> x.undo(1), DOWN);
        Edge.refused("9 undo -5: no MOVE ever", RefusalTest::oneMoves, x -> x.undo(0), STATE);
        Edge.refused("9 undo -5: the MOVE is over, OPEN and GO are owed", () -> Houses.plainMove(Houses.DONE), x -> x.undo(0), STATE);
        Edge.refused("9 undo -5: the MOVE is over, nothing is owed", () -> Houses.plainMove(Houses.GONE), x -> x.undo(0), STATE);
        Edge.refused("9 undo -5: the MOVE is undone", () -> Houses.plainUndo(0), x -> x.undo(0), STATE);
        Edge.refused("9 undo -6: 1199 LETTERS, as two are sent", () -> Houses.withLetters(1199), x -> x.undo(0), ROOM);
        Edge.refused("9 undo -6: 1200 LETTERS", RefusalTest::full, x -> x.undo(0), ROOM);
        Edge.refused("9 undo -1 before -4", RefusalTest::oneMovesDown, x -> x.undo(-1), NOBODY);
        Edge.refused("9 undo -1 before -6", RefusalTest::full, x -> x.undo(40), NOBODY);
        Edge.refused("9 undo -4 before -5", RefusalTest::oneMovesDown, x -> x.undo(0), DOWN);
        Edge.refused("9 undo -4 before -6", RefusalTest::fullAndDown, x -> x.undo(0), DOWN);
        Edge.refused("9 undo -5 before -6", RefusalTest::full, x -> x.undo(39), STATE);
    }

    private static void split() {
        Edge.refused("10 split -1: no RANGE", RefusalTest::oneMoves, x -> x.split(3, 350), NOBODY);
        Edge.refused("10 split -3: LOW", RefusalTest::oneMoves, x -> x.split(2, 200), BEYOND);
        Edge.refused("10 split -3: HIGH", RefusalTest::oneMoves, x -> x.split(0, 100), BEYOND);
        Edge.refused("10 split -4: HOST 0 is DOWN", () -> Houses.fallen(twoHomes(), 0), x -> x.split(1, 500), DOWN);
        Edge.refused("10 split -4: the HOME is DOWN", RefusalTest::twoHomesOneDown, x -> x.split(1, 500), DOWN);
        Edge.refused("10 split -4: both are DOWN, counted once", () -> Houses.fallen(twoHomesOneDown(), 0), x -> x.split(1, 500), DOWN);
        Edge.refused("10 split -5: a MOVE is under way", RefusalTest::oneMoves, x -> x.split(1, 150), STATE);
        Edge.refused("10 split -5: OPEN is owed", () -> owed(1), x -> x.split(0, 150), STATE);
        Edge.refused("10 split -5: GO is owed", () -> owed(2), x -> x.split(0, 150), STATE);
        Edge.refused("10 split -5: UNDO is owed", () -> owed(4), x -> x.split(0, 150), STATE);
        Edge.refused("10 split -5: DROP is owed", () -> owed(8), x -> x.split(0, 150), STATE);
        Edge.refused("10 split -6: 40 RANGES", () -> Houses.withRanges(40), x -> x.split(39, 9000), ROOM);
        Edge.refused("10 split -6: 40 RANGES were made, 39 are left", RefusalTest::thirtyNineLeft, x -> x.split(39, 9000), ROOM);
    }

    private static RangeHouse thirtyNineLeft() {
        RangeHouse x = Houses.withRanges(40);
        x.merge(0, 1);
        return x;
    }

    private static RangeHouse fortyLastMoves() {
        RangeHouse x = Houses.withRanges(40);
        x.move(39, 1);
        return x;
    }

    private static RangeHouse fortyDown() {
        return Houses.fallen(Houses.withRanges(40), 0);
    }

    private static void splitTwoAtOnce() {
        Edge.refused("10 split -1 before -3", RangeHouse::new, x -> x.split(1, -1), NOBODY);
        Edge.refused("10 split -1 before -4", RefusalTest::down, x -> x.split(2, 50), NOBODY);
        Edge.refused("10 split -1 before -6", () -> Houses.withRanges(40), x -> x.split(40, 9000), NOBODY);
        Edge.refused("10 split -3 before -4 (HOST 0)", RefusalTest::down, x -> x.split(0, 100), BEYOND);
        Edge.refused("10 split -3 before -4 (the HOME)", RefusalTest::twoHomesOneDown, x -> x.split(1, 100), BEYOND);
        Edge.refused("10 split -3 before -5", RefusalTest::oneMoves, x -> x.split(1, 100), BEYOND);
        Edge.refused("10 split -3 before -6", () -> Houses.withRanges(40), x -> x.split(39, 3900), BEYOND);
        Edge.refused("10 split -4 before -5", RefusalTest::oneMovesDown, x -> x.split(1, 150), DOWN);
        Edge.refused("10 split -4 before -6", RefusalTest::fortyDown, x -> x.split(39, 9000), DOWN);
        Edge.refused("10 split -5 before -6", RefusalTest::fortyLastMoves, x -> x.split(39, 9000), STATE);
    }

    private static void merge() {
        Edge.refused("11 merge -1: no first RANGE", () -> Houses.withRanges(2), x -> x.merge(2, 0), NOBODY);
        Edge.refused("11 merge -1: no second RANGE", () -> Houses.withRanges(2), x -> x.merge(0, 2), NOBODY);
        Edge.refused("11 merge -4: HOST 0 is DOWN", RefusalTest::down, x -> x.merge(0, 1), DOWN);
        Edge.refused("11 merge -4: HOST 0 is DOWN, their HOME is another", () -> Houses.fallen(bothAtThree(), 0), x -> x.merge(0, 1), DOWN);
        Edge.refused("11 merge -4: their HOME is DOWN", () -> Houses.fallen(bothAtThree(), 3), x -> x.merge(0, 1), DOWN);
        Edge.refused("11 merge -5: a MOVE of the first is under way", RefusalTest::oneMoves, x -> x.merge(1, 0), STATE);
        Edge.refused("11 merge -5: a MOVE of the second is under way", RefusalTest::oneMoves, x -> x.merge(0, 1), STATE);
        Edge.refused("11 merge -5: OPEN and GO of the first are owed", RefusalTest::owedOfOne, x -> x.merge(0, 1), STATE);
        Edge.refused("11 merge -5: OPEN and GO of the second are owed", RefusalTest::owedOfOne, x -> x.merge(1, 0), STATE);
        Edge.refused("11 merge -5: no neighbours", () -> Houses.withRanges(3), x -> x.merge(0, 2), STATE);
        Edge.refused("11 merge -5: no neighbours, the upper first", () -> Houses.withRanges(3), x -> x.merge(2, 0), STATE);
        Edge.refused("11 merge -5: a RANGE with itself", () -> Houses.withRanges(2), x -> x.merge(1, 1), STATE);
        Edge.refused("11 merge -5: all there is with itself", RangeHouse::new, x -> x.merge(0, 0), STATE);
        Edge.refused("11 merge -5: at two HOMES", RefusalTest::twoHomes, x -> x.merge(0, 1), STATE);
        Edge.refused("11 merge -5: at two HOMES, the upper first", RefusalTest::twoHomes, x -> x.merge(1, 0), STATE);
        Edge.refused("11 merge -5: 61 ROWS of both", RefusalTest::sixtyOneRows, x -> x.merge(0, 1), STATE);
        Edge.refused("11 merge -5: 61 ROWS of both, the upper first", RefusalTest::sixtyOneRows, x -> x.merge(1, 0), STATE);
        Edge.refused("11 merge -5: no neighbours and at two HOMES, counted once", RefusalTest::farApart, x -> x.merge(0, 2), STATE);
    }

    private static RangeHouse bothAtThree() {
        RangeHouse x = twoHomes();
        Check.moveWholly(x, 0, 3);
        return x;
    }

    /** RANGES 0, 1, 2; RANGE 2 at HOST 3. */
    private static RangeHouse farApart() {
        RangeHouse x = Houses.withRanges(3);
        Check.moveWholly(x, 2, 3);
        return x;
    }

    /** RANGES 0 and 1, both with HOME 3; of 0 OPEN and GO are owed. */
    private static RangeHouse owedOfOne() {
        RangeHouse x = twoHomes();
        int begin = x.status(3);
        x.move(0, 3);
        x.deliver(begin);
        x.step(0);
        for (int i = 0; i < 3; i++) {
            x.deliver(Check.last(x));
        }
        Check.due("18 what is owed", x.range(0, 5), 3);
        Check.due("18 HOME", x.range(0, 3), 3);
        return x;
    }

    /** RANGE 0 with 60 ROWS, RANGE 1 with one. */
    private static RangeHouse sixtyOneRows() {
        RangeHouse x = Houses.withRowsFrom100(60);
        x.split(0, 200);
        x.learn(1);
        Check.done(x, 1, 1, 200, 5, 0);
        return x;
    }

    private static void mergeTwoAtOnce() {
        Edge.refused("11 merge -1 (the first) before -4", RefusalTest::down, x -> x.merge(2, 0), NOBODY);
        Edge.refused("11 merge -1 (the second) before -4", RefusalTest::down, x -> x.merge(0, 2), NOBODY);
        Edge.refused("11 merge -1 (the first) before -5", RefusalTest::oneMoves, x -> x.merge(3, 1), NOBODY);
        Edge.refused("11 merge -1 (the second) before -5", RefusalTest::oneMoves, x -> x.merge(1, 3), NOBODY);
        Edge.refused("11 merge -4 (the first one's HOME) before -5 (two HOMES)", RefusalTest::twoHomesOneDown, x -> x.merge(1, 0), DOWN);
        Edge.refused("11 merge -4 (the second one's HOME) before -5 (two HOMES)", RefusalTest::twoHomesOneDown, x -> x.merge(0, 1), DOWN);
        Edge.refused("11 merge -4 (HOST 0) before -5 (two HOMES)", () -> Houses.fallen(twoHomes(), 0), x -> x.merge(0, 1), DOWN);
        Edge.refused("11 merge -4 before -5 (no neighbours)", () -> Houses.fallen(Houses.withRanges(3), 0), x -> x.merge(0, 2), DOWN);
        Edge.refused("11 merge -4 (a HOME) before -5 (no neighbours)", () -> Houses.fallen(farApart(), 3), x -> x.merge(0, 2), DOWN);
        Edge.refused("11 merge -4 before -5 (with itself)", RefusalTest::down, x -> x.merge(1, 1), DOWN);
        Edge.refused("11 merge -4 before -5 (not FREE)", RefusalTest::oneMovesDown, x -> x.merge(0, 1), DOWN);
        Edge.refused("11 merge -4 before -5 (61 ROWS)", () -> Houses.fallen(sixtyOneRows(), 0), x -> x.merge(0, 1), DOWN);
    }

    private static void step() {
        Edge.refused("12 step -1: no HOST", RefusalTest::oneMoves, x -> x.step(6), NOBODY);
        Edge.refused("12 step -4: HOST 0 is DOWN", RefusalTest::oneMovesDown, x -> x.step(0), DOWN);
        Edge.refused("12 step -4: HOST 5 is DOWN", () -> Houses.fallen(oneMoves(), 5), x -> x.step(5), DOWN);
        Edge.refused("12 step -6: 38 LETTERS, room for none", RefusalTest::full, x -> x.step(0), ROOM);
        Edge.refused("12 step -6: 38 LETTERS, room for 37: none is sent", () -> Houses.withLetters(1163), x -> x.step(0), ROOM);
        Edge.refused("12 step -6: a PART too many: none is sent, nor CLOSED", RefusalTest::partTooMany, x -> x.step(0), ROOM);
        Edge.refused("12 step -6: 38 BEGINS, OPEN, GO and DONE, room for 40", () -> Houses.withOwedAndLetters(1160), x -> x.step(0), ROOM);
        Edge.refused("12 step -1 before -6", RefusalTest::full, x -> x.step(-1), NOBODY);
        Edge.refused("12 step -4 before -6", RefusalTest::fullAndDown, x -> x.step(0), DOWN);
        Edge.refused("12 step -4 though nothing is to be sent", () -> Houses.fallen(full(), 5), x -> x.step(5), DOWN);
    }

    /** 38 BEGINS and the END of RANGE 0 are due, and there is room for 38. */
    private static RangeHouse partTooMany() {
        RangeHouse x = Houses.withLetters(1162);
        x.deliver(0);
        return x;
    }

    private static void deliverAndLose() {
        Edge.refused("13 deliver -1: no LETTER", () -> Houses.withCalls(1), x -> x.deliver(1), NOBODY);
        Edge.refused("13 deliver -5: LOST", RefusalTest::lost, x -> x.deliver(0), STATE);
        Edge.refused("13 deliver -6: 1199 LETTERS", () -> Houses.withLetters(1199), x -> x.deliver(0), ROOM);
        Edge.refused("13 deliver -6: 1200 LETTERS", RefusalTest::full, x -> x.deliver(1199), ROOM);
        Edge.refused("13 deliver -6: 1199 LETTERS, to a CALLER, where none goes back", RefusalTest::answerAtTheEnd, x -> x.deliver(1198), ROOM);
        Edge.refused("13 deliver -1 before -6", () -> Houses.withLetters(1199), x -> x.deliver(1199), NOBODY);
        Edge.refused("13 deliver -5 before -6", RefusalTest::lostAtTheEnd, x -> x.deliver(0), STATE);
        Edge.refused("13 deliver -5 before the 0 of DOWN", () -> Houses.fallen(lost(), 0), x -> x.deliver(0), STATE);
        Edge.refused("13 deliver -6 before the 0 of DOWN", () -> Houses.fallen(Houses.withLetters(1199), 0), x -> x.deliver(0), ROOM);
        Edge.refused("14 lose -1: no LETTER", () -> Houses.withCalls(1), x -> x.lose(1), NOBODY);
        Edge.refused("14 lose -5: it is LOST", RefusalTest::lost, x -> x.lose(0), STATE);
        Edge.refused("14 lose -5: it is LOST, with 1200 LETTERS", RefusalTest::lostAtTheEnd, x -> x.lose(0), STATE);
    }

    private static RangeHouse lost() {
        RangeHouse x = Houses.withCalls(1);
        x.lose(0);
        return x;
    }

    private static RangeHouse lostAtTheEnd() {
        RangeHouse x = full();
        x.lose(0);
        return x;
    }

    /** 1199 LETTERS, the last one an ANSWER or OLD. */
    private static RangeHouse answerAtTheEnd() {
        RangeHouse x = Houses.withLetters(1198);
        x.deliver(1197);
        Check.due("17 KIND of the last", x.letter(1198, 0), 1);
        return x;
    }

    private static void fallAndRise() {
        Edge.refused("15 fall -1: no HOST", RangeHouse::new, x -> x.fall(6), NOBODY);
        Edge.refused("15 fall -4: HOST 0 is DOWN", () -> Houses.fallen(new RangeHouse(), 0), x -> x.fall(0), DOWN);
        Edge.refused("15 fall -4: HOST 5 is DOWN", () -> Houses.fallen(new RangeHouse(), 5), x -> x.fall(5), DOWN);
        Edge.refused("16 rise -1: no HOST", RangeHouse::new, x -> x.rise(6), NOBODY);
        Edge.refused("16 rise -4: HOST 0 is UP", RangeHouse::new, x -> x.rise(0), DOWN);
        Edge.refused("16 rise -4: HOST 5 is UP", () -> Houses.fallen(new RangeHouse(), 0), x -> x.rise(5), DOWN);
        Edge.refused("21 weight -1: no HOST", RangeHouse::new, x -> x.weight(6), NOBODY);
    }

    private static void nobodyTwice() {
        Edge.refused("4 again -1: neither CALLER nor count, counted once", RangeHouse::new, x -> x.again(-1, -1), NOBODY);
        Edge.refused("8 move -1: neither RANGE nor HOST, counted once", RangeHouse::new, x -> x.move(-1, -1), NOBODY);
        Edge.refused("11 merge -1: neither RANGE, counted once", RangeHouse::new, x -> x.merge(-1, -1), NOBODY);
    }
}
