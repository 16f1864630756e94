/** Nothing there yet: no CALLER, no LETTER, no ROW, no CALL, nothing DONE, no MOVE. */
public final class NothingYetTest {
    private static final int NONE = Check.NONE;

    public static void main(String[] args) {
        newObject();
        noCaller();
        noCall();
        noLetter();
        noRow();
        nothingDone();
        noMove();
        Check.end("NothingYetTest");
    }

    private static RangeHouse oneCaller() {
        return Houses.withCallers(1);
    }

    private static void newObject() {
        Check.test("1 a new object: THE BOOK has RANGE 0 alone, 0 to 10000, EPOCH 1, HOME 0, FREE", () -> {
            Check.rangeIs(new RangeHouse(), 0, 0, 10000, 1, 0, NONE, 0, 1);
            Check.due("18 range(1, 0)", new RangeHouse().range(1, 0), NONE);
        });
        Check.test("1 a new object: RANGE 0 is WHOLE at HOST 0, without ROWS", () ->
            Check.atIs(new RangeHouse(), 0, 0, 1, 1, 0, 0, 10000, NONE, NONE, NONE, 0));
        for (int host = 1; host < 6; host++) {
            int h = host;
            Check.test("1 a new object: RANGE 0 is NOTHING at HOST " + h, () -> Check.atIsNothing(new RangeHouse(), h, 0));
        }
        Check.test("1 a new object: all HOSTS are UP", () -> {
            Check.due("24 HOSTS UP", new RangeHouse().status(5), 6);
            for (int host = 0; host < 6; host++) {
                Check.due("16 rise(" + host + ")", new RangeHouse().rise(host), -4);
            }
        });
        int[] status = {1, 1, 0, 0, 0, 6, 0, 0, NONE, NONE, NONE, 0, 0, 0, 0, 0, 0, NONE};
        for (int what = 0; what < status.length; what++) {
            int w = what;
            Edge.asked("1 a new object: status " + w, RangeHouse::new, x -> x.status(w), status[w]);
        }
    }

    private static void noCaller() {
        Edge.refused("no CALLER: 3 call", RangeHouse::new, x -> x.call(0, 0, 0, 0, 0), -1);
        Edge.refused("no CALLER: 4 again", RangeHouse::new, x -> x.again(0, 0), -1);
        Edge.asked("no CALLER: 5 answer", RangeHouse::new, x -> x.answer(0, 0, 0), NONE);
        Edge.refused("no CALLER: 6 learn", RangeHouse::new, x -> x.learn(0), -1);
        Edge.asked("no CALLER: 7 copy", RangeHouse::new, x -> x.copy(0, 0, 0), NONE);
        Edge.asked("no CALLER: 24 status(2)", RangeHouse::new, x -> x.status(2), 0);
    }

    private static void noCall() {
        Edge.refused("no CALL: 4 again", NothingYetTest::oneCaller, x -> x.again(0, 0), -1);
        for (int what = 0; what < 6; what++) {
            int w = what;
            Edge.asked("no CALL: 5 answer, what " + w, NothingYetTest::oneCaller, x -> x.answer(0, 0, w), NONE);
        }
        long[] before = {0, 0, NONE, 5, 0, 1};
        for (int what = 0; what < 6; what++) {
            int w = what;
            Edge.asked("5 answer: not ANSWERED yet, what " + w, () -> Houses.withCalls(1), x -> x.answer(0, 0, w), before[w]);
        }
        Check.test("5 answer: DONE is not ANSWERED yet", () -> {
            RangeHouse x = oneCaller();
            x.call(0, 3, 5, 7, 0);
            x.deliver(0);
            Check.due("24 DONE", x.status(4), 1);
            Check.due("ANSWERED", x.answer(0, 0, 0), 0);
            Check.due("value", x.answer(0, 0, 1), 0);
            Check.due("SIGN", x.answer(0, 0, 2), NONE);
        });
    }

    private static void noLetter() {
        Edge.refused("no LETTER: 13 deliver", RangeHouse::new, x -> x.deliver(0), -1);
        Edge.refused("no LETTER: 14 lose", RangeHouse::new, x -> x.lose(0), -1);
        for (int what = 0; what < 11; what++) {
            int w = what;
            Edge.asked("no LETTER: 17 letter, what " + w, RangeHouse::new, x -> x.letter(0, w), NONE);
        }
        Edge.asked("no LETTER: 24 status(3)", RangeHouse::new, x -> x.status(3), 0);
        Check.test("17 letter: not LOST and not delivered yet", () -> {
            RangeHouse x = Houses.withCalls(1);
            Check.due("LOST", x.letter(0, 5), 0);
            Check.due("delivered", x.letter(0, 6), 0);
        });
    }

    private static void noRow() {
        Edge.asked("no ROW: 20 row", RangeHouse::new, x -> x.row(0, 0, 0), 0);
        Edge.asked("no ROW: 19 at, ROWS", RangeHouse::new, x -> x.at(0, 0, 2), 0);
        Edge.asked("no ROW: 22 plan", RangeHouse::new, x -> x.plan(), NONE);
        for (int host = 0; host < 6; host++) {
            int h = host;
            Edge.asked("no ROW: 21 weight of " + h, RangeHouse::new, x -> x.weight(h), 0);
        }
        doneWithoutRow("READ", 0, 5, 6, 0, 0, 0);
        doneWithoutRow("WRITE 5", 1, 5, 6, 0, 1, 5);
        doneWithoutRow("STRIKE", 2, 5, 6, 0, 0, 0);
        doneWithoutRow("ADD 5, to 0", 3, 5, 6, 5, 1, 5);
        doneWithoutRow("SWAP 5 6", 4, 5, 6, 0, 0, 0);
        doneWithoutRow("SWAP 0 6, though the value that was there is 0", 4, 0, 6, 0, 0, 0);
        Check.test("no ROW: the BEGIN of a MOVE: 0 KEYS to be sent, the END is PART 0", () -> {
            RangeHouse x = Houses.plainMove(Houses.BEGIN);
            Check.atIs(x, 0, 0, 2, 1, 0, 0, 10000, 1, 0, 0, 0);
            x.step(0);
            Check.letterIs(x, Houses.END, 4, 1, 0, 0, 2, NONE, 1, 0, -1);
        });
        Check.test("no ROW: split and merge", () -> {
            RangeHouse x = new RangeHouse();
            Check.due("10 split", x.split(0, 5000), 1);
            Check.due("19 ROWS of 0", x.at(0, 0, 2), 0);
            Check.due("19 ROWS of 1", x.at(0, 1, 2), 0);
            Check.due("11 merge", x.merge(0, 1), 3);
            Check.due("19 ROWS of 0", x.at(0, 0, 2), 0);
        });
    }

    private static void doneWithoutRow(String name, int kind, long v, long w, long value, int rows, long row) {
        Check.test("no ROW: " + name + " is DONE: SIGN 0", () -> {
            RangeHouse x = oneCaller();
            Check.answerIs(x, 0, Check.done(x, 0, kind, 7, v, w), value, 0);
            Check.due("19 ROWS", x.at(0, 0, 2), rows);
            Check.due("20 row", x.row(0, 0, 7), row);
            Check.due("24 DONE", x.status(4), 1);
            Check.due("19 KEPT ANSWERS", x.at(0, 0, 8), 1);
        });
    }

    private static void nothingDone() {
        for (int what = 0; what < 5; what++) {
            int w = what;
            Edge.asked("nothing DONE: 23 order, what " + w, () -> Houses.withCalls(1), x -> x.order(0, w), NONE);
        }
        Edge.asked("nothing DONE: 24 status(4)", () -> Houses.withCalls(1), x -> x.status(4), 0);
        Edge.asked("nothing DONE: 19 at, KEPT ANSWERS", () -> Houses.withCalls(1), x -> x.at(0, 0, 8), 0);
    }

    private static void noMove() {
        Edge.refused("no MOVE: 9 undo", RangeHouse::new, x -> x.undo(0), -5);
        Edge.asked("no MOVE: 18 range, the taker", RangeHouse::new, x -> x.range(0, 4), NONE);
        Edge.asked("no MOVE: 18 range, what is owed", RangeHouse::new, x -> x.range(0, 5), 0);
        Edge.asked("no MOVE: 18 range, FREE", RangeHouse::new, x -> x.range(0, 6), 1);
        for (int host = 0; host < 6; host++) {
            int h = host;
            Edge.asked("no MOVE: 12 step of " + h + " sends no LETTER", RangeHouse::new, x -> x.step(h), 0);
            Check.test("no MOVE: 15 fall of " + h + ": none was TAKING", () -> Check.due("fall", new RangeHouse().fall(h), 0));
        }
    }
}
