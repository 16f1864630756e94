/** What CALL, ANSWER and OLD do: kinds of CALLS, KEPT ANSWERS, 60 ROWS, COPIES put right. */
public final class ServeTest {
    private static final int NONE = Check.NONE;

    public static void main(String[] args) {
        kinds();
        addGoesRound();
        sixtyRows();
        fourKeptAnswers();
        keptOutOfOrder();
        keptIsOfEachCaller();
        answerOnce();
        oldWithWhole();
        oldWithGave();
        oldWithNothing();
        oldThatIsTooOld();
        oldCutsSeveral();
        neighboursShareNoKey();
        knownByTheEdgesOfSpans();
        Check.end("ServeTest");
    }

    private static void kinds() {
        RangeHouse x = new RangeHouse();
        x.caller();
        Check.answerIs(x, 0, Check.done(x, 0, 0, 7, 0, 0), 0, 0);
        Check.answerIs(x, 0, Check.done(x, 0, 2, 7, 0, 0), 0, 0);
        Check.answerIs(x, 0, Check.done(x, 0, 4, 7, 0, 5), 0, 0);
        Check.due("a SWAP without a ROW makes none", x.at(0, 0, 2), 0);
        Check.answerIs(x, 0, Check.done(x, 0, 1, 7, 50, 0), 0, 0);
        Check.answerIs(x, 0, Check.done(x, 0, 0, 7, 0, 0), 50, 1);
        Check.answerIs(x, 0, Check.done(x, 0, 1, 7, 51, 0), 50, 1);
        Check.answerIs(x, 0, Check.done(x, 0, 3, 7, -11, 0), 40, 1);
        Check.answerIs(x, 0, Check.done(x, 0, 3, 8, 6, 0), 6, 0);
        Check.answerIs(x, 0, Check.done(x, 0, 4, 7, 41, 9), 40, 0);
        Check.due("a SWAP that does not", x.row(0, 0, 7), 40);
        Check.answerIs(x, 0, Check.done(x, 0, 4, 7, 40, 9), 40, 1);
        Check.due("a SWAP that does", x.row(0, 0, 7), 9);
        Check.answerIs(x, 0, Check.done(x, 0, 1, 7, 0, 0), 9, 1);
        Check.answerIs(x, 0, Check.done(x, 0, 0, 7, 0, 0), 0, 1);
        Check.answerIs(x, 0, Check.done(x, 0, 2, 7, 0, 0), 0, 1);
        Check.answerIs(x, 0, Check.done(x, 0, 0, 7, 0, 0), 0, 0);
        Check.due("one ROW is left", x.at(0, 0, 2), 1);
        Check.due("all were DONE", x.status(4), 14);
    }

    private static void addGoesRound() {
        RangeHouse x = new RangeHouse();
        x.caller();
        Check.done(x, 0, 1, 9999, Long.MAX_VALUE, 0);
        Check.answerIs(x, 0, Check.done(x, 0, 3, 9999, 1, 0), Long.MIN_VALUE, 1);
        Check.due("row", x.row(0, 0, 9999), Long.MIN_VALUE);
    }

    private static void sixtyRows() {
        RangeHouse x = new RangeHouse();
        x.caller();
        x.caller();
        for (int i = 0; i < 60; i++) {
            Check.done(x, 0, 1, 9000 - 100 * i, i, 0);
        }
        Check.answerIs(x, 0, 59, 0, 0);
        Check.due("60 ROWS", x.at(0, 0, 2), 60);
        Check.answerIs(x, 1, Check.done(x, 1, 1, 1, 5, 0), 0, 2);
        Check.answerIs(x, 1, Check.done(x, 1, 3, 1, 5, 0), 0, 2);
        Check.due("60 ROWS", x.at(0, 0, 2), 60);
        Check.due("they are DONE", x.status(4), 62);
        Check.answerIs(x, 1, Check.done(x, 1, 3, 9000, 5, 0), 5, 1);
        Check.answerIs(x, 1, Check.done(x, 1, 1, 3100, -1, 0), 59, 1);
        Check.answerIs(x, 1, Check.done(x, 1, 4, 1, 0, 1), 0, 0);
        Check.answerIs(x, 1, Check.done(x, 1, 2, 9000, 0, 0), 5, 1);
        Check.answerIs(x, 1, Check.done(x, 1, 1, 1, 5, 0), 0, 0);
        Check.answerIs(x, 1, Check.done(x, 1, 1, 2, 5, 0), 0, 2);
        Check.due("60 ROWS", x.at(0, 0, 2), 60);
        Check.due("weight", x.weight(0), 60);
        x.move(0, 1);
        x.deliver(Check.last(x));
        Check.due("60 KEYS to be sent", x.at(0, 0, 7), 60);
        Check.answerIs(x, 1, Check.done(x, 1, 1, 3, 5, 0), 0, 2);
        Check.due("one that does nothing is not to be sent", x.at(0, 0, 7), 60);
    }

    private static void fourKeptAnswers() {
        RangeHouse x = new RangeHouse();
        x.caller();
        for (int i = 0; i < 5; i++) {
            x.call(0, 3, 4, 1, 0);
        }
        for (int i = 0; i < 5; i++) {
            x.deliver(i);
            Check.due("KEPT ANSWERS", x.at(0, 0, 8), Math.min(i + 1, 4));
        }
        Check.due("an ANSWER each", x.status(3), 10);
        x.deliver(1);
        Check.due("one that is KEPT goes back again", x.status(3), 11);
        Check.letterIs(x, 10, 1, 0, 0, NONE, NONE, 1, NONE, NONE, NONE);
        x.deliver(0);
        Check.due("one below all 4: nothing", x.status(3), 11);
        Check.due("none is done twice", x.row(0, 0, 4), 5);
        Check.due("none is done twice", x.status(4), 5);
        x.deliver(10);
        Check.answerIs(x, 0, 1, 2, 1);
    }

    private static void keptOutOfOrder() {
        RangeHouse x = new RangeHouse();
        x.caller();
        for (int i = 0; i < 8; i++) {
            x.call(0, 3, 4, 1, 0);
        }
        x.deliver(7);
        x.deliver(3);
        x.deliver(5);
        x.deliver(1);
        Check.due("with fewer than 4, one below all is DONE", x.status(4), 4);
        x.deliver(0);
        Check.due("below all of 4: nothing", x.status(4), 4);
        x.deliver(2);
        Check.due("above the least of 4: DONE", x.status(4), 5);
        Check.due("KEPT ANSWERS", x.at(0, 0, 8), 4);
        x.deliver(1);
        Check.due("1 is no more KEPT, and below all", x.status(3), 13);
        int sent = x.status(3);
        int[] kept = {2, 3, 5, 7};
        int[] values = {5, 2, 3, 1};
        for (int i = 0; i < 4; i++) {
            x.deliver(kept[i]);
            x.deliver(sent + i);
            Check.answerIs(x, 0, kept[i], values[i], kept[i] == 7 ? 0 : 1);
        }
        Check.due("none was done twice", x.status(4), 5);
        x.deliver(6);
        Check.due("6 is DONE", x.status(4), 6);
        x.deliver(2);
        Check.due("2 is no more KEPT", x.status(3), sent + 5);
    }

    private static void keptIsOfEachCaller() {
        RangeHouse x = new RangeHouse();
        for (int c = 0; c < 6; c++) {
            x.caller();
            for (int i = 0; i < 5; i++) {
                Check.answerIs(x, c, Check.done(x, c, 3, 10, 1, 0), 5 * c + i + 1, c + i == 0 ? 0 : 1);
            }
        }
        Check.due("4 of each", x.at(0, 0, 8), 24);
    }

    private static void answerOnce() {
        RangeHouse x = new RangeHouse();
        x.caller();
        x.call(0, 1, 5, 8, 0);
        x.deliver(0);
        x.deliver(0);
        Check.due("two ANSWERS", x.status(3), 3);
        x.deliver(2);
        Check.answerIs(x, 0, 0, 0, 0);
        x.deliver(1);
        Check.answerIs(x, 0, 0, 0, 0);
        Check.due("once DONE", x.status(4), 1);
    }

    private static void oldWithWhole() {
        RangeHouse x = new RangeHouse();
        x.caller();
        x.split(0, 100);
        x.split(0, 50);
        x.call(0, 1, 70, 5, 0);
        x.deliver(0);
        Check.letterIs(x, 1, 2, 0, 0, 2, 3, 0, NONE, NONE, NONE);
        Check.due("nothing is DONE", x.status(4), 0);
        x.deliver(1);
        Check.copyIs(x, 0, 49, 0, 1, 0, 0, 50);
        Check.copyIs(x, 0, 50, 2, 3, 0, 50, 100);
        Check.copyIs(x, 0, 99, 2, 3, 0, 50, 100);
        Check.copyIs(x, 0, 100, 0, 1, 0, 100, 10000);
        x.again(0, 0);
        Check.letterIs(x, 2, 0, 0, 0, 2, 3, 0, NONE, NONE, NONE);
        x.deliver(2);
        x.deliver(3);
        Check.answerIs(x, 0, 0, 0, 0);

        x.move(2, 1);
        x.deliver(4);
        x.call(0, 0, 9999, 0, 0);
        x.call(0, 0, 99, 0, 0);
        x.deliver(6);
        Check.due("GIVING serves", x.letter(7, 0), 1);
        RangeHouse y = new RangeHouse();
        y.caller();
        y.split(0, 100);
        y.move(0, 1);
        y.deliver(0);
        y.call(0, 0, 5, 0, 0);
        y.deliver(1);
        Check.letterIs(y, 2, 2, 0, 0, 0, 2, 0, NONE, NONE, NONE);
    }

    private static void oldWithGave() {
        RangeHouse x = new RangeHouse();
        x.caller();
        x.caller();
        Check.moveWholly(x, 0, 2);
        x.call(0, 0, 9999, 0, 0);
        int call = Check.last(x);
        x.deliver(call);
        Check.letterIs(x, call + 1, 2, 0, 0, 0, 2, 0, NONE, NONE, NONE);
        x.deliver(call + 1);
        Check.copyIs(x, 0, 0, 0, 2, 2, 0, 10000);
        Check.copyIs(x, 1, 0, 0, 1, 0, 0, 10000);

        x.split(0, 500);
        Check.moveWholly(x, 0, 0);
        Check.moveWholly(x, 0, 3);
        x.call(1, 0, 499, 0, 0);
        x.deliver(Check.last(x));
        Check.letterIs(x, Check.last(x), 2, 1, 0, 0, 5, 0, NONE, NONE, NONE);
        x.deliver(Check.last(x));
        Check.copyIs(x, 1, 499, 0, 5, 3, 0, 500);
        Check.copyIs(x, 1, 500, 0, 1, 0, 500, 10000);
        x.call(1, 0, 500, 0, 0);
        x.deliver(Check.last(x));
        Check.letterIs(x, Check.last(x), 2, 1, 0, 0, 2, 1, NONE, NONE, NONE);
        x.deliver(Check.last(x));
        Check.copyIs(x, 1, 500, 0, 1, 0, 500, 10000);
    }

    private static void oldWithNothing() {
        RangeHouse x = new RangeHouse();
        x.caller();
        x.move(0, 1);
        x.deliver(0);
        x.step(0);
        Check.due("CLOSED", x.at(0, 0, 0), 3);
        x.call(0, 0, 5, 0, 0);
        int call = Check.last(x);
        x.deliver(call);
        Check.letterIs(x, call + 1, 2, 0, 0, NONE, NONE, 0, NONE, NONE, NONE);
        Check.due("it is delivered", x.deliver(call + 1), 1);
        Check.copyIs(x, 0, 5, 0, 1, 0, 0, 10000);
        Check.due("not ANSWERED", x.answer(0, 0, 0), 0);
    }

    private static void oldThatIsTooOld() {
        RangeHouse x = new RangeHouse();
        x.caller();
        x.split(0, 100);
        x.call(0, 0, 5, 0, 0);
        x.deliver(0);
        Check.letterIs(x, 1, 2, 0, 0, 0, 2, 0, NONE, NONE, NONE);
        x.split(0, 50);
        x.learn(0);
        x.deliver(1);
        Check.copyIs(x, 0, 5, 0, 3, 0, 0, 50);
        Check.copyIs(x, 0, 50, 2, 3, 0, 50, 100);
        Check.copyIs(x, 0, 100, 1, 2, 0, 100, 10000);

        RangeHouse y = new RangeHouse();
        y.caller();
        y.split(0, 100);
        y.call(0, 0, 5, 0, 0);
        y.deliver(0);
        y.learn(0);
        y.deliver(1);
        Check.due("of the same EPOCH: nothing", y.copy(0, 5, 4), 100);
        y.deliver(1);
        Check.due("of the same EPOCH: nothing", y.copy(0, 5, 4), 100);
    }

    private static void oldCutsSeveral() {
        RangeHouse x = new RangeHouse();
        x.caller();
        x.split(0, 100);
        x.split(1, 200);
        x.split(2, 300);
        x.learn(0);
        x.merge(1, 2);
        x.call(0, 0, 250, 0, 0);
        x.deliver(0);
        Check.letterIs(x, 1, 2, 0, 0, 1, 5, 0, NONE, NONE, NONE);
        x.deliver(1);
        Check.copyIs(x, 0, 99, 0, 2, 0, 0, 100);
        Check.copyIs(x, 0, 100, 1, 5, 0, 100, 300);
        Check.copyIs(x, 0, 299, 1, 5, 0, 100, 300);
        Check.copyIs(x, 0, 300, 3, 4, 0, 300, 10000);

        // one of those that share a KEY has a greater EPOCH: the whole of it is left
        RangeHouse y = new RangeHouse();
        y.caller();
        y.caller();
        y.split(0, 100);
        y.call(0, 0, 5, 0, 0);
        y.deliver(0);
        y.split(0, 50);
        y.split(2, 75);
        y.call(0, 0, 80, 0, 0);
        y.deliver(2);
        y.deliver(3);
        Check.copyIs(y, 0, 80, 3, 4, 0, 75, 100);
        y.deliver(1);
        Check.copyIs(y, 0, 5, 0, 1, 0, 0, 75);
        Check.copyIs(y, 1, 5, 0, 1, 0, 0, 10000);
    }

    /** Neighbours in the COPY, of the same EPOCH or a greater one, do not stand in an OLD's way. */
    private static void neighboursShareNoKey() {
        RangeHouse x = new RangeHouse();
        x.caller();
        x.split(0, 100);
        x.split(1, 200);
        x.call(0, 0, 50, 0, 0);
        x.call(0, 0, 150, 0, 0);
        x.call(0, 0, 250, 0, 0);
        x.deliver(0);
        x.deliver(1);
        x.deliver(2);
        x.deliver(4);
        Check.copyIs(x, 0, 150, 1, 3, 0, 100, 200);
        x.deliver(3);
        Check.copyIs(x, 0, 99, 0, 2, 0, 0, 100);
        x.deliver(5);
        Check.copyIs(x, 0, 200, 2, 3, 0, 200, 10000);
        Check.copyIs(x, 0, 199, 1, 3, 0, 100, 200);
    }

    private static void knownByTheEdgesOfSpans() {
        RangeHouse x = new RangeHouse();
        x.caller();
        x.split(0, 100);
        x.split(1, 200);
        int[] keys = {99, 100, 199, 200};
        int[] known = {0, 1, 1, 2};
        for (int i = 0; i < keys.length; i++) {
            x.call(0, 0, keys[i], 0, 0);
            x.deliver(Check.last(x));
            Check.due("the RANGE that has " + keys[i], x.letter(Check.last(x), 3), known[i]);
        }
        Check.moveWholly(x, 1, 3);
        for (int i = 0; i < keys.length; i++) {
            x.call(0, 0, keys[i], 0, 0);
            x.deliver(Check.last(x));
            Check.due("the RANGE that had " + keys[i], x.letter(Check.last(x), 3), known[i]);
        }
    }
}
