/** Houses that tests of edges begin with; each is made with some 300 calls at most. */
final class Houses {
    /** The LETTERS of plainMove, by their numbers. */
    static final int BEGIN = 0;
    static final int BEGIN_AGAIN = 1;
    static final int END = 2;
    static final int TOOK = 3;
    static final int DONE = 4;
    static final int OPEN = 5;
    static final int GO = 6;
    static final int OPENED = 7;
    static final int GONE = 8;

    /** The LETTERS of plainUndo: a MOVE that is undone before its BEGIN comes. */
    static final int UNDO = 1;
    static final int DROP = 2;
    static final int UNDONE = 3;
    static final int DROPPED = 4;

    private Houses() {
    }

    static RangeHouse withCallers(int callers) {
        RangeHouse x = new RangeHouse();
        for (int i = 0; i < callers; i++) {
            x.caller();
        }
        return x;
    }

    /** One CALLER, and so many CALLS (READS of KEY 5) that were sent. */
    static RangeHouse withCalls(int calls) {
        RangeHouse x = withCallers(1);
        for (int i = 0; i < calls; i++) {
            x.call(0, 0, 5, 0, 0);
        }
        return x;
    }

    /** Two CALLERS; RANGE 0 has ROWS of so many KEYS from 100 on, each 1 more than the KEY. */
    static RangeHouse withRowsFrom100(int rows) {
        RangeHouse x = withCallers(2);
        for (int i = 0; i < rows; i++) {
            x.call(0, 1, 100 + i, 101 + i, 0);
            x.deliver(2 * i);
        }
        return x;
    }

    /** RANGES of 100 KEYS each, the last one to 10000, all at HOST 0. */
    static RangeHouse withRanges(int ranges) {
        RangeHouse x = new RangeHouse();
        for (int r = 1; r < ranges; r++) {
            x.split(r - 1, 100 * r);
        }
        return x;
    }

    /** Two CALLERS, 40 RANGES, the first 38 in a MOVE, and so many LETTERS (38 or more). */
    static RangeHouse withLetters(int letters) {
        return filled(withRanges(40), 0, 38, letters);
    }

    /** The same, and RANGE 38 has HOME 1: OPEN and GO are owed, and at HOST 0 it is CLOSED. */
    static RangeHouse withOwedAndLetters(int letters) {
        RangeHouse x = withRanges(40);
        x.move(38, 1);
        x.deliver(BEGIN);
        x.step(0);
        x.deliver(END);
        x.deliver(TOOK);
        x.deliver(DONE);
        return filled(x, GO + 1, 41, letters);
    }

    /** A step of HOST 0 sends so many, as soon as 38 MOVES are under way. */
    private static RangeHouse filled(RangeHouse x, int before, int ofStep, int letters) {
        x.caller();
        x.caller();
        int sent = before;
        for (int r = 0; r < 38; r++, sent++) {
            x.move(r, 1 + r % 5);
        }
        for (; sent + ofStep <= letters; sent += ofStep) {
            x.step(0);
        }
        for (; sent < letters; sent++) {
            x.call(0, 0, 100, 0, 0);
        }
        return x;
    }

    /** The MOVE of RANGE 0, without ROWS, to HOST 1, and its LETTERS up to one delivered, each once. */
    static RangeHouse plainMove(int upTo) {
        RangeHouse x = new RangeHouse();
        x.move(0, 1);
        if (upTo >= BEGIN) {
            x.deliver(BEGIN);
        }
        if (upTo >= BEGIN_AGAIN) {
            x.step(0);
        }
        for (int l = END; l <= upTo; l++) {
            x.deliver(l);
        }
        return x;
    }

    /** The MOVE of RANGE 0 to HOST 1 is undone, and its LETTERS from UNDO up to one delivered. */
    static RangeHouse plainUndo(int upTo) {
        RangeHouse x = new RangeHouse();
        x.move(0, 1);
        x.undo(0);
        for (int l = UNDO; l <= upTo; l++) {
            x.deliver(l);
        }
        return x;
    }

    static RangeHouse fallen(RangeHouse x, int host) {
        x.fall(host);
        return x;
    }
}
