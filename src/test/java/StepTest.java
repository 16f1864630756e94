/** Promise 12: step. */
public final class StepTest {
    private static final int NONE = Check.NONE;

    public static void main(String[] args) {
        refused();
        orderOfLetters();
        bookFirst();
        closedSendsTheEndAgain();
        otherHostsGive();
        Check.end("StepTest");
    }

    private static void refused() {
        RangeHouse x = new RangeHouse();
        Check.due("12: no HOST", x.step(-1), -1);
        Check.due("12: no HOST", x.step(6), -1);
        for (int host = 0; host < 6; host++) {
            Check.due("12: step(" + host + ")", x.step(host), 0);
            x.fall(host);
            Check.due("12: DOWN", x.step(host), -4);
        }
        Check.due("12: nothing was sent", x.status(3), 0);
    }

    private static void orderOfLetters() {
        RangeHouse x = new RangeHouse();
        x.split(0, 100);
        x.split(1, 200);
        x.split(2, 300);
        x.move(3, 1);
        x.move(1, 2);
        x.undo(1);
        x.move(0, 4);
        x.deliver(4);
        Check.due("0 is GIVING", x.at(0, 0, 0), 2);
        int first = x.status(3);
        Check.due("12: step(0)", x.step(0), 5);
        Check.letterIs(x, first, 3, 0, 0, 0, 3, NONE, NONE, NONE, NONE);
        Check.letterIs(x, first + 1, 11, 0, 0, 1, 4, NONE, NONE, NONE, NONE);
        Check.letterIs(x, first + 2, 13, 2, 0, 1, 4, NONE, NONE, NONE, NONE);
        Check.letterIs(x, first + 3, 3, 0, 0, 3, 5, NONE, NONE, NONE, NONE);
        Check.letterIs(x, first + 4, 4, 4, 0, 0, 3, NONE, 1, 0, -1);
        x.deliver(first + 4);
        x.deliver(Check.last(x));
        Check.due("12: step(0) with a DONE", x.step(0), 5);
        Check.letterIs(x, Check.last(x), 6, 0, 0, 0, 3, NONE, NONE, NONE, NONE);
        x.deliver(Check.last(x));
        x.lose(Check.last(x));
        int next = x.status(3);
        Check.due("12: OPEN, GO, UNDO, DROP, BEGIN, DONE", x.step(0), 6);
        Check.letterIs(x, next, 7, 4, 0, 0, 3, NONE, NONE, NONE, NONE);
        Check.letterIs(x, next + 1, 9, 0, 0, 0, 3, NONE, NONE, NONE, NONE);
        Check.letterIs(x, next + 2, 11, 0, 0, 1, 4, NONE, NONE, NONE, NONE);
        Check.letterIs(x, next + 3, 13, 2, 0, 1, 4, NONE, NONE, NONE, NONE);
        Check.letterIs(x, next + 4, 3, 0, 0, 3, 5, NONE, NONE, NONE, NONE);
        Check.letterIs(x, next + 5, 6, 0, 0, 0, 3, NONE, NONE, NONE, NONE);
        x.deliver(next + 1);
        x.deliver(Check.last(x));
        Check.due("12: GO is owed no more", x.step(0), 4);
        x.deliver(next);
        x.deliver(Check.last(x));
        Check.due("12: OPEN is owed no more", x.step(0), 3);
        x.deliver(next + 2);
        x.deliver(Check.last(x));
        Check.due("12: UNDO is owed no more", x.step(0), 2);
        x.deliver(next + 3);
        x.deliver(Check.last(x));
        Check.due("12: DROP is owed no more", x.step(0), 1);
    }

    private static void bookFirst() {
        RangeHouse x = new RangeHouse();
        x.split(0, 100);
        x.move(0, 1);
        x.move(1, 1);
        x.deliver(1);
        x.deliver(0);
        Check.due("12: two BEGINS, two PARTS", x.step(0), 4);
        int[] kinds = {3, 3, 4, 4};
        for (int i = 0; i < 4; i++) {
            Check.due("KIND", x.letter(2 + i, 0), kinds[i]);
            Check.due("RANGE", x.letter(2 + i, 3), i % 2);
        }
    }

    private static void closedSendsTheEndAgain() {
        RangeHouse x = new RangeHouse();
        x.caller();
        Check.done(x, 0, 1, 3, 4, 0);
        x.move(0, 1);
        x.deliver(2);
        for (int i = 0; i < 3; i++) {
            x.step(0);
            Check.letterIs(x, Check.last(x), 4, 1, 0, 0, 2, NONE, 1, 0, 1);
        }
        x.deliver(Check.last(x));
        x.deliver(Check.last(x));
        for (int i = 0; i < 3; i++) {
            x.step(0);
            Check.letterIs(x, Check.last(x), 4, 1, 0, 0, 2, NONE, 1, 1, -1);
            Check.due("CLOSED", x.at(0, 0, 0), 3);
        }
    }

    private static void otherHostsGive() {
        RangeHouse x = new RangeHouse();
        Check.moveWholly(x, 0, 4);
        x.move(0, 2);
        x.deliver(Check.last(x));
        Check.due("12: a PART", x.step(4), 1);
        Check.letterIs(x, Check.last(x), 4, 2, 4, 0, 3, NONE, 1, 0, -1);
        Check.due("12: a BEGIN alone", x.step(0), 1);
        Check.due("12: the taker sends nothing", x.step(2), 0);
        x.fall(0);
        Check.due("12: HOST 4 goes on without HOST 0", x.step(4), 1);
        x.deliver(Check.last(x));
        x.deliver(Check.last(x));
        Check.letterIs(x, Check.last(x), 6, 0, 4, 0, 3, NONE, NONE, NONE, NONE);
        Check.due("0 as HOST 0 is DOWN", x.deliver(Check.last(x)), 0);
        Check.due("the MOVE is under way", x.range(0, 4), 2);
        x.rise(0);
        Check.due("12: a DONE again", x.step(4), 1);
        Check.due("1", x.deliver(Check.last(x)), 1);
        Check.due("HOME", x.range(0, 3), 2);
    }
}
