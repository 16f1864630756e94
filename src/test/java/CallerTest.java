/** Promises 2 to 7: caller, call, again, answer, learn, copy. */
public final class CallerTest {
    private static final int NONE = Check.NONE;

    public static void main(String[] args) {
        caller();
        call();
        callsOfOneCaller();
        again();
        answer();
        learn();
        copy();
        Check.end("CallerTest");
    }

    private static void caller() {
        RangeHouse x = new RangeHouse();
        x.fall(0);
        Check.due("2: caller() with HOST 0 DOWN", x.caller(), -4);
        x.rise(0);
        for (int i = 0; i < 6; i++) {
            Check.due("2: caller()", x.caller(), i);
        }
        Check.due("2: a 7th caller()", x.caller(), -6);
        x.fall(0);
        Check.due("2: DOWN before ROOM", x.caller(), -4);
        Check.due("2: status(2)", x.status(2), 6);
        Check.due("2: status(14)", x.status(14), 2);
        Check.due("2: status(16)", x.status(16), 1);

        RangeHouse y = new RangeHouse();
        y.split(0, 700);
        Check.moveWholly(y, 1, 4);
        y.caller();
        Check.copyIs(y, 0, 699, 0, 2, 0, 0, 700);
        Check.copyIs(y, 0, 700, 1, 3, 4, 700, 10000);
    }

    private static void call() {
        RangeHouse x = new RangeHouse();
        Check.due("3: no CALLER", x.call(0, 9, 20000, 1, 1), -1);
        Check.due("3: no CALLER", x.call(-1, 0, 0, 1, 1), -1);
        x.caller();
        x.caller();
        Check.due("3: no CALLER", x.call(2, 0, 0, 1, 1), -1);
        Check.due("3: no kind", x.call(0, 5, -1, 1, 1), -2);
        Check.due("3: no kind", x.call(0, -1, 0, 1, 1), -2);
        Check.due("3: no KEY", x.call(0, 0, -1, 1, 1), -3);
        Check.due("3: no KEY", x.call(0, 4, 10000, 1, 1), -3);
        Check.due("3: nothing is sent", x.status(3), 0);
        Check.due("3: KEY 0", x.call(0, 1, 0, 8, 0), 0);
        Check.due("3: KEY 9999", x.call(0, 4, 9999, 8, 0), 1);
        Check.due("3: another CALLER's count", x.call(1, 0, 5, 0, 0), 0);
        Check.letterIs(x, 1, 0, 0, 0, 0, 1, 1, NONE, NONE, NONE);
        Check.letterIs(x, 2, 0, 0, 1, 0, 1, 0, NONE, NONE, NONE);
        Check.due("3: status(3)", x.status(3), 3);
        x.fall(0);
        Check.due("3: a CALL is sent to a HOST that is DOWN", x.call(0, 0, 1, 0, 0), 2);
        Check.due("3: and not delivered", x.deliver(3), 0);

        RangeHouse y = new RangeHouse();
        y.split(0, 50);
        Check.moveWholly(y, 1, 3);
        y.caller();
        y.call(0, 0, 50, 0, 0);
        Check.letterIs(y, Check.last(y), 0, 3, 0, 1, 3, 0, NONE, NONE, NONE);
    }

    private static void callsOfOneCaller() {
        RangeHouse x = new RangeHouse();
        x.caller();
        x.caller();
        for (int i = 0; i < 60; i++) {
            Check.due("3: the " + i + "th CALL", x.call(0, 0, i, 0, 0), i);
        }
        Check.due("3: a 61st CALL", x.call(0, 0, 0, 0, 0), -6);
        Check.due("3: BEYOND before ROOM", x.call(0, 0, 10000, 0, 0), -3);
        Check.due("3: another CALLER's", x.call(1, 0, 0, 0, 0), 0);
        Check.due("4: again(0, 59)", x.again(0, 59), 61);
        Check.due("3: status(16)", x.status(16), 1);
    }

    private static void again() {
        RangeHouse x = new RangeHouse();
        Check.due("4: no CALLER", x.again(0, 0), -1);
        x.caller();
        Check.due("4: no count", x.again(0, 0), -1);
        x.call(0, 1, 60, 5, 0);
        Check.due("4: no count", x.again(0, 1), -1);
        Check.due("4: no count", x.again(0, -1), -1);
        Check.due("4: no CALLER", x.again(1, 0), -1);
        Check.due("4: again(0, 0)", x.again(0, 0), 1);
        Check.letterIs(x, 1, 0, 0, 0, 0, 1, 0, NONE, NONE, NONE);
        x.split(0, 60);
        Check.due("4: by the COPY as it is", x.again(0, 0), 2);
        Check.letterIs(x, 2, 0, 0, 0, 0, 1, 0, NONE, NONE, NONE);
        x.learn(0);
        Check.due("4: by the COPY as it is", x.again(0, 0), 3);
        Check.letterIs(x, 3, 0, 0, 0, 1, 2, 0, NONE, NONE, NONE);
        Check.due("5: how often it was sent", x.answer(0, 0, 5), 4);
        x.deliver(3);
        x.deliver(4);
        Check.due("4: of one that is ANSWERED", x.again(0, 0), 5);
        Check.due("4: status(11)", x.status(11), 5);
    }

    private static void answer() {
        RangeHouse x = new RangeHouse();
        Check.due("5: no CALLER", x.answer(0, 0, 0), NONE);
        x.caller();
        Check.due("5: no count", x.answer(0, 0, 0), NONE);
        x.call(0, 3, 77, 12, 0);
        long[] before = {0, 0, NONE, 77, 3, 1, NONE};
        for (int i = 0; i < before.length; i++) {
            Check.due("5: answer(0, 0, " + i + ")", x.answer(0, 0, i), before[i]);
        }
        Check.due("5: answer(0, 0, -1)", x.answer(0, 0, -1), NONE);
        Check.due("5: answer(0, -1, 0)", x.answer(0, -1, 0), NONE);
        Check.due("5: answer(0, 1, 3)", x.answer(0, 1, 3), NONE);
        Check.due("5: answer(-1, 0, 3)", x.answer(-1, 0, 3), NONE);
        Check.due("5: answer(6, 0, 3)", x.answer(6, 0, 3), NONE);
        x.deliver(0);
        Check.due("5: DONE is not ANSWERED", x.answer(0, 0, 0), 0);
        Check.due("5: DONE is not ANSWERED", x.answer(0, 0, 2), NONE);
        x.deliver(1);
        long[] behind = {1, 12, 0, 77, 3, 1, NONE};
        for (int i = 0; i < behind.length; i++) {
            Check.due("5: answer(0, 0, " + i + ")", x.answer(0, 0, i), behind[i]);
        }
        Check.due("5: no REFUSAL", x.status(11), 0);
    }

    private static void learn() {
        RangeHouse x = new RangeHouse();
        Check.due("6: no CALLER", x.learn(0), -1);
        x.caller();
        Check.due("6: learn(0)", x.learn(0), 1);
        x.split(0, 10);
        x.split(1, 20);
        Check.copyIs(x, 0, 15, 0, 1, 0, 0, 10000);
        Check.due("6: learn(0)", x.learn(0), 3);
        Check.copyIs(x, 0, 9, 0, 2, 0, 0, 10);
        Check.copyIs(x, 0, 10, 1, 3, 0, 10, 20);
        Check.copyIs(x, 0, 9999, 2, 3, 0, 20, 10000);
        x.merge(2, 1);
        Check.due("6: learn(0)", x.learn(0), 2);
        Check.copyIs(x, 0, 10, 2, 4, 0, 10, 10000);
        x.fall(0);
        Check.due("6: HOST 0 DOWN", x.learn(0), -4);
        Check.due("6: no CALLER", x.learn(-1), -1);
        Check.due("6: no CALLER", x.learn(1), -1);
    }

    private static void copy() {
        RangeHouse x = new RangeHouse();
        Check.due("7: no CALLER", x.copy(0, 0, 0), NONE);
        x.caller();
        Check.copyIs(x, 0, 0, 0, 1, 0, 0, 10000);
        Check.copyIs(x, 0, 9999, 0, 1, 0, 0, 10000);
        Check.due("7: KEY 10000", x.copy(0, 10000, 0), NONE);
        Check.due("7: KEY -1", x.copy(0, -1, 0), NONE);
        Check.due("7: what -1", x.copy(0, 0, -1), NONE);
        Check.due("7: what 5", x.copy(0, 0, 5), NONE);
        Check.due("7: CALLER 1", x.copy(1, 0, 0), NONE);
        Check.due("7: CALLER -1", x.copy(-1, 0, 0), NONE);
        Check.due("7: no REFUSAL", x.status(11), 0);
    }
}
