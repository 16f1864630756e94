/** CALL, ANSWER and OLD (KINDS 0 to 2): each clause of what they do, and what the HOST KNOWS, at its edges. */
public final class CallLettersTest {
    private static final int NONE = Check.NONE;

    public static void main(String[] args) {
        callByState();
        callByEpoch();
        callByCount();
        known();
        knownAsGiven();
        answer();
        oldByEpoch();
        oldLeavesTheRest();
        toHostsThatAreDown();
        lettersAgainAndAgain();
        Check.end("CallLettersTest");
    }

    /** A CALLER's WRITE of 7 to KEY 5, sent by the COPY as it is: the LETTER. */
    private static int write(RangeHouse x, int caller) {
        x.call(caller, 1, 5, 7, 0);
        return Check.last(x);
    }

    private static void isDone(RangeHouse x, int call, int host) {
        int sent = x.status(3);
        Check.due("13 deliver", x.deliver(call), 1);
        Check.due("24 DONE", x.status(4), 1);
        Check.due("24 LETTERS", x.status(3), sent + 1);
        Check.letterIs(x, sent, 1, 0, host, NONE, NONE, 0, NONE, NONE, NONE);
        Check.due("20 row", x.row(host, 0, 5), 7);
    }

    /** An OLD goes back, with that RANGE and EPOCH; nothing is DONE. */
    private static void isOld(RangeHouse x, int call, int range, int epoch) {
        int sent = x.status(3);
        int host = x.letter(call, 1);
        Check.due("13 deliver", x.deliver(call), 1);
        Check.due("24 DONE", x.status(4), 0);
        Check.due("24 LETTERS", x.status(3), sent + 1);
        Check.letterIs(x, sent, 2, x.letter(call, 2), host, range, epoch, x.letter(call, 7), NONE, NONE, NONE);
    }

    private static void callByState() {
        Check.test("0 CALL: WHOLE with this EPOCH: DONE, KEPT, an ANSWER goes back", () -> {
            RangeHouse x = Houses.withCallers(1);
            isDone(x, write(x, 0), 0);
            Check.due("19 KEPT ANSWERS", x.at(0, 0, 8), 1);
        });
        Check.test("0 CALL: GIVING with this EPOCH: DONE, KEPT, an ANSWER goes back", () -> {
            RangeHouse x = Houses.plainMove(Houses.BEGIN);
            x.caller();
            isDone(x, write(x, 0), 0);
            Check.due("19 KEPT ANSWERS", x.at(0, 0, 8), 1);
        });
        Check.test("0 CALL: CLOSED with this EPOCH: an OLD with nothing", () -> {
            RangeHouse x = Houses.plainMove(Houses.BEGIN_AGAIN);
            x.caller();
            isOld(x, write(x, 0), NONE, NONE);
        });
        Check.test("0 CALL: READY with this EPOCH: an OLD with nothing", () -> {
            RangeHouse x = Houses.plainMove(Houses.DONE);
            x.caller();
            Check.due("7 HOME", x.copy(0, 5, 2), 1);
            Check.due("19 READY", x.at(1, 0, 0), 5);
            isOld(x, write(x, 0), NONE, NONE);
        });
        Check.test("0 CALL: NOTHING: an OLD with what it GAVE", () -> {
            RangeHouse x = Houses.withCallers(1);
            Check.moveWholly(x, 0, 1);
            isOld(x, write(x, 0), 0, 2);
        });
        Check.test("0 CALL: TAKING: an OLD with what it GAVE", () -> {
            RangeHouse x = Check.withRows(1);
            x.call(0, 1, 5, 7, 0);
            int call = Check.last(x);
            Check.moveWholly(x, 0, 1);
            x.move(0, 0);
            x.deliver(Check.last(x));
            x.step(1);
            x.deliver(Check.last(x));
            Check.due("19 TAKING", x.at(0, 0, 0), 4);
            x.deliver(call);
            Check.letterIs(x, Check.last(x), 2, 0, 0, 0, 2, 1, NONE, NONE, NONE);
            Check.due("24 DONE", x.status(4), 1);
        });
        Check.test("0 CALL: the RANGE is no more, another has the KEY: an OLD with that", () -> {
            RangeHouse x = Houses.withRanges(2);
            x.caller();
            x.merge(1, 0);
            isOld(x, write(x, 0), 1, 3);
        });
    }

    private static void callByEpoch() {
        Check.test("0 CALL: an EPOCH 1 less than the HOST's: an OLD", () -> {
            RangeHouse x = Houses.withCallers(1);
            x.split(0, 100);
            isOld(x, write(x, 0), 0, 2);
        });
        Check.test("0 CALL: an EPOCH more than the HOST's, as the UNDO did not come yet: an OLD", () -> {
            RangeHouse x = Houses.plainUndo(0);
            x.caller();
            Check.due("7 EPOCH", x.copy(0, 5, 1), 3);
            isOld(x, write(x, 0), 0, 1);
            x.deliver(Check.last(x));
            Check.due("2 OLD: an EPOCH less: the COPY stays", x.copy(0, 5, 1), 3);
        });
        Check.test("0 CALL: the EPOCH of the COPY as it was sent, not as it is", () -> {
            RangeHouse x = Houses.withCallers(1);
            int call = write(x, 0);
            x.split(0, 100);
            x.learn(0);
            isOld(x, call, 0, 2);
        });
        Check.test("0 CALL: the EPOCH of the COPY as it was sent is the HOST's by now", () -> {
            RangeHouse x = Houses.plainUndo(0);
            x.caller();
            int call = write(x, 0);
            x.deliver(Houses.UNDO);
            isDone(x, call, 0);
            Check.due("23 EPOCH", x.order(0, 4), 3);
        });
    }

    private static void callByCount() {
        Check.test("0 CALL: a count among the KEPT ANSWERS: an ANSWER goes back, not DONE again", () -> {
            RangeHouse x = Houses.withCallers(1);
            x.call(0, 3, 5, 7, 0);
            x.deliver(0);
            x.deliver(0);
            Check.due("24 DONE", x.status(4), 1);
            Check.due("20 row", x.row(0, 0, 5), 7);
            Check.letterIs(x, 2, 1, 0, 0, NONE, NONE, 0, NONE, NONE, NONE);
        });
        Edge.doesNothing("0 CALL: a count below all of 4 that are KEPT: nothing", () -> {
            RangeHouse x = Houses.withCalls(5);
            for (int l = 1; l < 5; l++) {
                x.deliver(l);
            }
            return x;
        }, 0, 1);
        Edge.doesNothing("0 CALL: a count that was DONE and is below all of 4 by now: nothing", () -> {
            RangeHouse x = Houses.withCalls(5);
            for (int l = 0; l < 5; l++) {
                x.deliver(l);
            }
            return x;
        }, 0, 1);
        Check.test("0 CALL: KEPT ANSWERS are those that were DONE in this RANGE", () -> {
            RangeHouse x = Houses.withRanges(2);
            x.caller();
            x.call(0, 1, 150, 7, 0);
            x.call(0, 1, 50, 7, 0);
            x.deliver(0);
            Check.due("19 KEPT ANSWERS of 1", x.at(0, 1, 8), 1);
            Check.due("19 KEPT ANSWERS of 0", x.at(0, 0, 8), 0);
            x.deliver(1);
            Check.due("19 KEPT ANSWERS of 0", x.at(0, 0, 8), 1);
        });
    }

    /** RANGES 0, 1 (100 to 200) and 2 at HOST 0, of which the CALLER knows nothing. */
    private static RangeHouse threeUnknown() {
        RangeHouse x = Houses.withCallers(1);
        x.split(0, 100);
        x.split(1, 200);
        return x;
    }

    private static void knownOf(int key, int range, int epoch, int low, int high) {
        Check.test("the HOST KNOWS the RANGE that is WHOLE and has the KEY " + key, () -> {
            RangeHouse x = threeUnknown();
            x.call(0, 0, key, 0, 0);
            isOld(x, 0, range, epoch);
            x.deliver(1);
            Check.copyIs(x, 0, key, range, epoch, 0, low, high);
        });
    }

    private static void known() {
        knownOf(0, 0, 2, 0, 100);
        knownOf(99, 0, 2, 0, 100);
        knownOf(100, 1, 3, 100, 200);
        knownOf(199, 1, 3, 100, 200);
        knownOf(200, 2, 3, 200, 10000);
        knownOf(9999, 2, 3, 200, 10000);
        Check.test("the HOST KNOWS the RANGE that is GIVING and has the KEY", () -> {
            RangeHouse x = threeUnknown();
            x.move(1, 4);
            x.deliver(0);
            x.call(0, 0, 100, 0, 0);
            isOld(x, 1, 1, 3);
            x.deliver(2);
            Check.copyIs(x, 0, 100, 1, 3, 0, 100, 200);
        });
        Check.test("the HOST KNOWS nothing of a RANGE that is CLOSED", () -> {
            RangeHouse x = threeUnknown();
            x.move(1, 4);
            x.deliver(0);
            x.step(0);
            x.call(0, 0, 100, 0, 0);
            isOld(x, Check.last(x), NONE, NONE);
        });
    }

    private static void knownAsGiven() {
        Check.test("the HOST KNOWS what it GAVE, with SPAN, EPOCH and HOST", () -> {
            RangeHouse x = threeUnknown();
            Check.moveWholly(x, 1, 4);
            x.call(0, 0, 199, 0, 0);
            isOld(x, Check.last(x), 1, 4);
            x.deliver(Check.last(x));
            Check.copyIs(x, 0, 100, 1, 4, 4, 100, 200);
        });
        Check.test("the HOST KNOWS what is WHOLE at it before what it GAVE", () -> {
            RangeHouse x = threeUnknown();
            Check.moveWholly(x, 1, 4);
            Check.moveWholly(x, 1, 0);
            x.call(0, 0, 150, 0, 0);
            isOld(x, Check.last(x), 1, 5);
            x.deliver(Check.last(x));
            Check.copyIs(x, 0, 150, 1, 5, 0, 100, 200);
        });
        Check.test("the HOST KNOWS what it GAVE last", () -> {
            RangeHouse x = threeUnknown();
            Check.moveWholly(x, 1, 4);
            Check.moveWholly(x, 1, 0);
            Check.moveWholly(x, 1, 2);
            x.call(0, 0, 150, 0, 0);
            isOld(x, Check.last(x), 1, 6);
            x.deliver(Check.last(x));
            Check.copyIs(x, 0, 150, 1, 6, 2, 100, 200);
        });
        Check.test("the HOST KNOWS what it GAVE last and had the KEY, whatever it GAVE behind it", () -> {
            RangeHouse x = threeUnknown();
            Check.moveWholly(x, 1, 4);
            Check.moveWholly(x, 2, 5);
            x.call(0, 0, 199, 0, 0);
            isOld(x, Check.last(x), 1, 4);
            x.call(0, 0, 200, 0, 0);
            isOld(x, Check.last(x), 2, 4);
        });
        Check.test("a HOST that FALLS and rises KNOWS what it GAVE", () -> {
            RangeHouse x = threeUnknown();
            Check.moveWholly(x, 1, 4);
            x.fall(0);
            x.rise(0);
            x.call(0, 0, 150, 0, 0);
            isOld(x, Check.last(x), 1, 4);
        });
    }

    private static RangeHouse answeredTwice() {
        RangeHouse x = Houses.withCallers(1);
        x.call(0, 3, 5, 7, 0);
        x.deliver(0);
        x.deliver(0);
        x.deliver(1);
        return x;
    }

    private static void answer() {
        Check.test("1 ANSWER: the CALL is ANSWERED", () -> Check.answerIs(answeredTwice(), 0, 0, 7, 0));
        Edge.doesNothing("1 ANSWER: the same one again: nothing", CallLettersTest::answeredTwice, 1, 1);
        Edge.doesNothing("1 ANSWER: another one, of a CALL that is ANSWERED: nothing", CallLettersTest::answeredTwice, 2, 1);
        Check.test("1 ANSWER: it comes to a CALLER, though all HOSTS are DOWN", () -> {
            RangeHouse x = Houses.withCalls(1);
            x.deliver(0);
            for (int host = 0; host < 6; host++) {
                x.fall(host);
            }
            Check.due("13 deliver", x.deliver(1), 1);
            Check.answerIs(x, 0, 0, 0, 0);
        });
        Check.test("2 OLD: it comes to a CALLER, though all HOSTS are DOWN", () -> {
            RangeHouse x = threeUnknown();
            x.call(0, 0, 5, 0, 0);
            x.deliver(0);
            for (int host = 0; host < 6; host++) {
                x.fall(host);
            }
            Check.due("13 deliver", x.deliver(1), 1);
            Check.due("7 EPOCH", x.copy(0, 5, 1), 2);
        });
    }

    /** LETTER 1 is an OLD with RANGE 0, 0 to 100, EPOCH 2. */
    private static RangeHouse oldOfEpochTwo() {
        RangeHouse x = Houses.withCallers(1);
        x.split(0, 100);
        x.call(0, 0, 5, 0, 0);
        x.deliver(0);
        return x;
    }

    private static void oldByEpoch() {
        Check.test("2 OLD: an EPOCH 1 above: the COPY has it", () -> {
            RangeHouse x = oldOfEpochTwo();
            x.deliver(1);
            Check.copyIs(x, 0, 99, 0, 2, 0, 0, 100);
            Check.copyIs(x, 0, 100, 0, 1, 0, 100, 10000);
        });
        Edge.doesNothing("2 OLD: the same EPOCH: nothing", () -> {
            RangeHouse x = oldOfEpochTwo();
            x.deliver(1);
            return x;
        }, 1, 1);
        Edge.doesNothing("2 OLD: an EPOCH 1 less: nothing", () -> {
            RangeHouse x = oldOfEpochTwo();
            x.split(0, 50);
            x.learn(0);
            return x;
        }, 1, 1);
        Edge.doesNothing("2 OLD: above all others, but it shares one KEY with a greater EPOCH: nothing", () -> {
            RangeHouse x = oldOfEpochTwo();
            x.split(0, 99);
            x.call(0, 0, 99, 0, 0);
            x.deliver(2);
            x.deliver(3);
            Check.copyIs(x, 0, 99, 2, 3, 0, 99, 100);
            return x;
        }, 1, 1);
        Check.test("2 OLD: a lower neighbour with a greater EPOCH shares no KEY with it", () -> {
            RangeHouse x = Houses.withCallers(1);
            x.split(0, 100);
            x.call(0, 0, 100, 0, 0);
            x.deliver(0);
            x.split(0, 50);
            x.call(0, 0, 99, 0, 0);
            x.deliver(2);
            x.deliver(3);
            Check.copyIs(x, 0, 99, 2, 3, 0, 50, 100);
            x.deliver(1);
            Check.copyIs(x, 0, 100, 1, 2, 0, 100, 10000);
            Check.copyIs(x, 0, 99, 2, 3, 0, 50, 100);
            Check.copyIs(x, 0, 49, 0, 1, 0, 0, 50);
        });
        Check.test("2 OLD: an upper neighbour with a greater EPOCH shares no KEY with it", () -> {
            RangeHouse x = oldOfEpochTwo();
            x.split(1, 200);
            x.call(0, 0, 100, 0, 0);
            x.deliver(2);
            x.deliver(3);
            Check.copyIs(x, 0, 100, 1, 3, 0, 100, 200);
            x.deliver(1);
            Check.copyIs(x, 0, 99, 0, 2, 0, 0, 100);
            Check.copyIs(x, 0, 100, 1, 3, 0, 100, 200);
            Check.copyIs(x, 0, 200, 0, 1, 0, 200, 10000);
        });
        Edge.doesNothing("2 OLD: with nothing: nothing", () -> {
            RangeHouse x = Houses.plainMove(Houses.BEGIN_AGAIN);
            x.caller();
            x.call(0, 0, 5, 0, 0);
            x.deliver(3);
            return x;
        }, 4, 1);
    }

    private static void oldLeavesTheRest() {
        Check.test("2 OLD: of the others the KEYS above are left", () -> {
            RangeHouse x = threeUnknown();
            x.call(0, 0, 0, 0, 0);
            x.deliver(0);
            x.deliver(1);
            Check.copyIs(x, 0, 0, 0, 2, 0, 0, 100);
            Check.copyIs(x, 0, 100, 0, 1, 0, 100, 10000);
        });
        Check.test("2 OLD: of the others the KEYS below are left", () -> {
            RangeHouse x = threeUnknown();
            x.call(0, 0, 9999, 0, 0);
            x.deliver(0);
            x.deliver(1);
            Check.copyIs(x, 0, 9999, 2, 3, 0, 200, 10000);
            Check.copyIs(x, 0, 199, 0, 1, 0, 0, 200);
        });
        Check.test("2 OLD: of one other the KEYS below and above are left", () -> {
            RangeHouse x = threeUnknown();
            x.call(0, 0, 150, 0, 0);
            x.deliver(0);
            x.deliver(1);
            Check.copyIs(x, 0, 99, 0, 1, 0, 0, 100);
            Check.copyIs(x, 0, 150, 1, 3, 0, 100, 200);
            Check.copyIs(x, 0, 200, 0, 1, 0, 200, 10000);
        });
        Check.test("2 OLD: nothing of the other is left", () -> {
            RangeHouse x = Houses.withCallers(1);
            Check.moveWholly(x, 0, 3);
            x.call(0, 0, 5, 0, 0);
            x.deliver(Check.last(x));
            x.deliver(Check.last(x));
            Check.copyIs(x, 0, 0, 0, 2, 3, 0, 10000);
            Check.copyIs(x, 0, 9999, 0, 2, 3, 0, 10000);
        });
        Check.test("2 OLD: of several others each one's rest is left, and those wholly within go", () -> {
            RangeHouse x = Houses.withRanges(5);
            x.caller();
            x.merge(2, 1);
            x.merge(2, 3);
            x.split(2, 150);
            x.split(5, 350);
            Check.rangeIs(x, 5, 150, 350, 8, 0, NONE, 0, 1);
            x.call(0, 0, 200, 0, 0);
            x.deliver(0);
            x.deliver(1);
            Check.copyIs(x, 0, 99, 0, 2, 0, 0, 100);
            Check.copyIs(x, 0, 149, 1, 3, 0, 100, 150);
            Check.copyIs(x, 0, 150, 5, 8, 0, 150, 350);
            Check.copyIs(x, 0, 349, 5, 8, 0, 150, 350);
            Check.copyIs(x, 0, 350, 3, 5, 0, 350, 400);
            Check.copyIs(x, 0, 400, 4, 5, 0, 400, 10000);
        });
        Check.test("2 OLD: what is left is sent to with its number, EPOCH, HOME as they were", () -> {
            RangeHouse x = threeUnknown();
            x.call(0, 0, 150, 0, 0);
            x.deliver(0);
            x.deliver(1);
            x.call(0, 0, 200, 0, 0);
            Check.letterIs(x, 2, 0, 0, 0, 0, 1, 1, NONE, NONE, NONE);
        });
        Check.test("2 OLD: another CALLER's COPY stays", () -> {
            RangeHouse x = Houses.withCallers(2);
            x.split(0, 100);
            x.call(1, 0, 5, 0, 0);
            x.deliver(0);
            x.deliver(1);
            Check.due("7 EPOCH of 1", x.copy(1, 5, 1), 2);
            Check.due("7 EPOCH of 0", x.copy(0, 5, 1), 1);
        });
    }

    private static void toHostsThatAreDown() {
        Edge.doesNothing("0 CALL: to a HOST that is DOWN: nothing, 0", () -> Houses.fallen(Houses.withCalls(1), 0), 0, 0);
        Check.test("0 CALL: delivered anew when the HOST is UP again", () -> {
            RangeHouse x = Houses.fallen(Houses.withCalls(1), 0);
            Check.due("13 deliver", x.deliver(0), 0);
            x.rise(0);
            Check.due("13 deliver", x.deliver(0), 1);
            Check.due("24 DONE", x.status(4), 1);
            Check.due("17 how often it was delivered", x.letter(0, 6), 2);
        });
    }

    private static void lettersAgainAndAgain() {
        Check.test("a LETTER can be delivered again and again, till it is LOST", () -> {
            RangeHouse x = Houses.withCalls(1);
            for (int i = 0; i < 20; i++) {
                Check.due("13 deliver", x.deliver(0), 1);
                Check.due("17 how often", x.letter(0, 6), i + 1);
            }
            Check.due("14 lose", x.lose(0), 1);
            Check.due("13 deliver", x.deliver(0), -5);
            Check.due("17 how often", x.letter(0, 6), 20);
            Check.due("24 DONE", x.status(4), 1);
        });
        Check.test("a LETTER that is LOST before it was delivered", () -> {
            RangeHouse x = Houses.withCalls(1);
            Check.due("14 lose", x.lose(0), 1);
            Check.due("13 deliver", x.deliver(0), -5);
            Check.due("24 DONE", x.status(4), 0);
            Check.due("4 again: another LETTER", x.again(0, 0), 1);
            Check.due("13 deliver", x.deliver(1), 1);
        });
    }
}
