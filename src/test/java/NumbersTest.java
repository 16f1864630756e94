/** Numbers too small (-1) and too large (one past the last), and the first and the last that are allowed. */
public final class NumbersTest {
    private static final int NONE = Check.NONE;

    public static void main(String[] args) {
        callers();
        calls();
        kindsAndKeysOfCalls();
        ranges();
        keysOfSplit();
        hosts();
        letters();
        whats();
        doneCalls();
        rows();
        firstAndLastCallers();
        firstAndLastKeys();
        firstAndLastSpans();
        firstAndLastHosts();
        firstAndLastLetters();
        Check.end("NumbersTest");
    }

    private static RangeHouse oneCaller() {
        return Houses.withCallers(1);
    }

    private static RangeHouse sixCallers() {
        return Houses.withCallers(6);
    }

    /** CALLERS 0 and 1; RANGES 0 and 1; a CALL that is ANSWERED, and a MOVE of RANGE 1 under way. */
    private static RangeHouse some() {
        RangeHouse x = Houses.withCallers(2);
        x.call(0, 1, 5, 7, 0);
        x.deliver(0);
        x.deliver(1);
        x.split(0, 100);
        x.move(1, 2);
        return x;
    }

    private static void callers() {
        Edge.refusedOf("3 call: CALLER", NumbersTest::some, (x, n) -> x.call(n, 0, 0, 0, 0), -1, -1, 2, 6);
        Edge.refusedOf("3 call: of six CALLERS", NumbersTest::sixCallers, (x, n) -> x.call(n, 0, 0, 0, 0), -1, -1, 6);
        Edge.refusedOf("4 again: CALLER", NumbersTest::some, (x, n) -> x.again(n, 0), -1, -1, 2, 6);
        Edge.askedOf("5 answer: CALLER", NumbersTest::some, (x, n) -> x.answer(n, 0, 3), NONE, -1, 2, 6);
        Edge.refusedOf("6 learn: CALLER", NumbersTest::some, (x, n) -> x.learn(n), -1, -1, 2, 6);
        Edge.refusedOf("6 learn: of six CALLERS", NumbersTest::sixCallers, (x, n) -> x.learn(n), -1, -1, 6);
        Edge.askedOf("7 copy: CALLER", NumbersTest::some, (x, n) -> x.copy(n, 0, 0), NONE, -1, 2, 6);
        Edge.askedOf("7 copy: of six CALLERS", NumbersTest::sixCallers, (x, n) -> x.copy(n, 0, 0), NONE, -1, 6);
    }

    private static void calls() {
        Edge.refusedOf("4 again: count", NumbersTest::some, (x, n) -> x.again(0, n), -1, -1, 1, 60);
        Edge.refusedOf("4 again: of 60 CALLS count", () -> Houses.withCalls(60), (x, n) -> x.again(0, n), -1, -1, 60);
        Edge.refusedOf("4 again: another CALLER's count", NumbersTest::some, (x, n) -> x.again(1, n), -1, 0);
        Edge.askedOf("5 answer: count", NumbersTest::some, (x, n) -> x.answer(0, n, 3), NONE, -1, 1, 60);
        Edge.askedOf("5 answer: of 60 CALLS count", () -> Houses.withCalls(60), (x, n) -> x.answer(0, n, 3), NONE, -1, 60);
        Edge.askedOf("5 answer: another CALLER's count", NumbersTest::some, (x, n) -> x.answer(1, n, 3), NONE, 0);
    }

    private static void kindsAndKeysOfCalls() {
        Edge.refusedOf("3 call: kind", NumbersTest::oneCaller, (x, n) -> x.call(0, n, 0, 0, 0), -2, -1, 5);
        for (int kind = 0; kind < 5; kind++) {
            int k = kind;
            Edge.refusedOf("3 call: kind " + k + ", KEY", NumbersTest::oneCaller, (x, n) -> x.call(0, k, n, 0, 0), -3, -1, 10000);
        }
        Edge.askedOf("7 copy: KEY", NumbersTest::some, (x, n) -> x.copy(0, n, 0), NONE, -1, 10000);
    }

    private static void ranges() {
        Edge.refusedOf("8 move: RANGE", NumbersTest::some, (x, n) -> x.move(n, 1), -1, -1, 2, 40);
        Edge.refusedOf("8 move: of 40 RANGES", () -> Houses.withRanges(40), (x, n) -> x.move(n, 1), -1, -1, 40);
        Edge.refusedOf("9 undo: RANGE", NumbersTest::some, (x, n) -> x.undo(n), -1, -1, 2, 40);
        Edge.refusedOf("10 split: RANGE", NumbersTest::some, (x, n) -> x.split(n, 50), -1, -1, 2, 40);
        Edge.refusedOf("11 merge: the first RANGE", NumbersTest::some, (x, n) -> x.merge(n, 0), -1, -1, 2, 40);
        Edge.refusedOf("11 merge: the second RANGE", NumbersTest::some, (x, n) -> x.merge(0, n), -1, -1, 2, 40);
        Edge.askedOf("18 range: RANGE", NumbersTest::some, (x, n) -> x.range(n, 0), NONE, -1, 2, 40);
        Edge.askedOf("18 range: of 40 RANGES", () -> Houses.withRanges(40), (x, n) -> x.range(n, 0), NONE, -1, 40);
        Edge.askedOf("19 at: number", NumbersTest::some, (x, n) -> x.at(0, n, 0), NONE, -1, 2, 40);
        Edge.askedOf("19 at: of 40 RANGES number", () -> Houses.withRanges(40), (x, n) -> x.at(0, n, 0), NONE, -1, 40);
        rangesThatAreNoMore();
    }

    private static RangeHouse merged() {
        RangeHouse x = Houses.withRanges(3);
        x.merge(0, 1);
        return x;
    }

    private static void rangesThatAreNoMore() {
        Edge.refused("8 move: a RANGE that THE BOOK has no more", NumbersTest::merged, x -> x.move(1, 1), -1);
        Edge.refused("9 undo: a RANGE that THE BOOK has no more", NumbersTest::merged, x -> x.undo(1), -1);
        Edge.refused("10 split: a RANGE that THE BOOK has no more", NumbersTest::merged, x -> x.split(1, 150), -1);
        Edge.refused("11 merge: a first RANGE that THE BOOK has no more", NumbersTest::merged, x -> x.merge(1, 2), -1);
        Edge.refused("11 merge: a second RANGE that THE BOOK has no more", NumbersTest::merged, x -> x.merge(2, 1), -1);
        Edge.asked("18 range: a RANGE that THE BOOK has no more", NumbersTest::merged, x -> x.range(1, 0), NONE);
        Edge.asked("19 at: a RANGE that THE BOOK has no more is NOTHING", NumbersTest::merged, x -> x.at(0, 1, 0), 0);
        Edge.asked("19 at: NOTHING has 0 alone", NumbersTest::merged, x -> x.at(0, 1, 1), NONE);
    }

    private static void keysOfSplit() {
        Edge.refusedOf("10 split: KEY", RangeHouse::new, (x, n) -> x.split(0, n), -3, -1, 0, 10000, 10001);
        Edge.refusedOf("10 split: of 100 to 200 KEY", () -> Houses.withRanges(3), (x, n) -> x.split(1, n), -3, 99, 100, 200, 201);
        Edge.refusedOf("10 split: of one KEY alone KEY", NumbersTest::oneKey, (x, n) -> x.split(1, n), -3, 9998, 9999, 10000);
    }

    private static RangeHouse oneKey() {
        RangeHouse x = new RangeHouse();
        x.split(0, 9999);
        return x;
    }

    private static void hosts() {
        Edge.refusedOf("8 move: HOST", RangeHouse::new, (x, n) -> x.move(0, n), -1, -1, 6);
        Edge.refusedOf("12 step: HOST", NumbersTest::some, (x, n) -> x.step(n), -1, -1, 6);
        Edge.refusedOf("15 fall: HOST", NumbersTest::some, (x, n) -> x.fall(n), -1, -1, 6);
        Edge.refusedOf("16 rise: HOST", NumbersTest::some, (x, n) -> x.rise(n), -1, -1, 6);
        Edge.askedOf("19 at: HOST", NumbersTest::some, (x, n) -> x.at(n, 0, 0), NONE, -1, 6);
        Edge.refusedOf("21 weight: HOST", NumbersTest::some, (x, n) -> x.weight(n), -1, -1, 6);
    }

    private static void letters() {
        Edge.refusedOf("13 deliver: LETTER", NumbersTest::some, (x, n) -> x.deliver(n), -1, -1, 3, 1200);
        Edge.refusedOf("14 lose: LETTER", NumbersTest::some, (x, n) -> x.lose(n), -1, -1, 3, 1200);
        Edge.askedOf("17 letter: LETTER", NumbersTest::some, (x, n) -> x.letter(n, 0), NONE, -1, 3, 1200);
        Edge.refused("13 deliver: of 1200 LETTERS -1", () -> Houses.withLetters(1200), x -> x.deliver(-1), -1);
        Edge.refused("13 deliver: of 1200 LETTERS 1200", () -> Houses.withLetters(1200), x -> x.deliver(1200), -1);
        Edge.refused("14 lose: of 1200 LETTERS 1200", () -> Houses.withLetters(1200), x -> x.lose(1200), -1);
        Edge.asked("17 letter: of 1200 LETTERS 1200", () -> Houses.withLetters(1200), x -> x.letter(1200, 0), NONE);
    }

    private static void whats() {
        Edge.askedOf("5 answer: what", NumbersTest::some, (x, n) -> x.answer(0, 0, n), NONE, -1, 6);
        Edge.askedOf("7 copy: what", NumbersTest::some, (x, n) -> x.copy(0, 0, n), NONE, -1, 5);
        for (int l = 0; l < 3; l++) {
            int letter = l;
            Edge.askedOf("17 letter: of " + l + " what", NumbersTest::some, (x, n) -> x.letter(letter, n), NONE, -1, 11);
        }
        Edge.askedOf("18 range: what", NumbersTest::some, (x, n) -> x.range(0, n), NONE, -1, 7);
        Edge.askedOf("19 at: of WHOLE what", NumbersTest::some, (x, n) -> x.at(0, 0, n), NONE, -1, 9);
        Edge.askedOf("19 at: of NOTHING what", NumbersTest::some, (x, n) -> x.at(1, 0, n), NONE, -1, 1, 8, 9);
        Edge.askedOf("23 order: what", NumbersTest::some, (x, n) -> x.order(0, n), NONE, -1, 5);
        Edge.askedOf("24 status: what", NumbersTest::some, (x, n) -> x.status(n), NONE, -1, 8, 9, 10, 17);
    }

    private static void doneCalls() {
        Edge.askedOf("23 order: one was DONE, i", NumbersTest::some, (x, n) -> x.order(n, 0), NONE, -1, 1);
    }

    private static void rows() {
        Edge.askedOf("20 row: HOST", NumbersTest::some, (x, n) -> x.row(n, 0, 5), 0, -1, 1, 5, 6);
        Edge.askedOf("20 row: RANGE", NumbersTest::some, (x, n) -> x.row(0, n, 5), 0, -1, 1, 2, 40);
        Edge.askedOf("20 row: KEY", NumbersTest::some, (x, n) -> x.row(0, 0, n), 0, -1, 4, 6, 100, 10000);
    }

    private static void firstAndLastCallers() {
        Check.test("2 caller: CALLERS are 0 .. 5", () -> {
            RangeHouse x = new RangeHouse();
            for (int i = 0; i < 6; i++) {
                Check.due("caller()", x.caller(), i);
            }
        });
        for (int caller : new int[] {0, 5}) {
            Check.test("CALLER " + caller + " of six calls, sends again, learns, is asked of", () -> {
                RangeHouse x = sixCallers();
                Check.due("3 call", x.call(caller, 1, 5, 7, 0), 0);
                Check.due("4 again", x.again(caller, 0), 1);
                Check.due("6 learn", x.learn(caller), 1);
                Check.copyIs(x, caller, 5, 0, 1, 0, 0, 10000);
                Check.due("17 from", x.letter(0, 2), caller);
                x.deliver(0);
                Check.due("17 to", x.letter(2, 1), caller);
                x.deliver(2);
                Check.answerIs(x, caller, 0, 0, 0);
                Check.due("23 CALLER", x.order(0, 0), caller);
            });
        }
        Check.test("3 call: counts are 0 .. 59", () -> {
            RangeHouse x = oneCaller();
            for (int i = 0; i < 60; i++) {
                Check.due("call", x.call(0, 0, i, 0, 0), i);
            }
            Check.due("4 again of the first", x.again(0, 0), 60);
            Check.due("4 again of the last", x.again(0, 59), 61);
            Check.due("5 KEY of the first", x.answer(0, 0, 3), 0);
            Check.due("5 KEY of the last", x.answer(0, 59, 3), 59);
        });
        for (int kind = 0; kind < 5; kind++) {
            int k = kind;
            Check.test("3 call: kind " + k + " is one", () -> {
                RangeHouse x = oneCaller();
                Check.due("call", x.call(0, k, 5, 1, 2), 0);
                Check.due("5 kind", x.answer(0, 0, 4), k);
            });
        }
    }

    private static void firstAndLastKeys() {
        for (int key : new int[] {0, 9999}) {
            Check.test("KEYS are 0 .. 9999: " + key + " is written, read, struck", () -> {
                RangeHouse x = oneCaller();
                Check.answerIs(x, 0, Check.done(x, 0, 1, key, 70, 0), 0, 0);
                Check.due("20 row", x.row(0, 0, key), 70);
                Check.answerIs(x, 0, Check.done(x, 0, 0, key, 0, 0), 70, 1);
                Check.answerIs(x, 0, Check.done(x, 0, 3, key, 1, 0), 71, 1);
                Check.answerIs(x, 0, Check.done(x, 0, 4, key, 71, 72), 71, 1);
                Check.answerIs(x, 0, Check.done(x, 0, 2, key, 0, 0), 72, 1);
                Check.due("19 ROWS", x.at(0, 0, 2), 0);
            });
            Check.test("7 copy: KEY " + key, () -> Check.copyIs(oneCaller(), 0, key, 0, 1, 0, 0, 10000));
            Check.test("4 PART: KEY " + key + " goes along", () -> {
                RangeHouse x = Check.withRows(key);
                Check.moveWholly(x, 0, 5);
                Check.due("20 row", x.row(5, 0, key), key + 1);
            });
        }
    }

    private static void firstAndLastSpans() {
        Check.test("10 split: KEY 1, the first above LOW", () -> {
            RangeHouse x = Check.withRows(0, 1);
            Check.due("split", x.split(0, 1), 1);
            Check.rangeIs(x, 0, 0, 1, 2, 0, NONE, 0, 1);
            Check.rangeIs(x, 1, 1, 10000, 2, 0, NONE, 0, 1);
            Check.due("20 row of 0", x.row(0, 0, 0), 1);
            Check.due("20 row of 1", x.row(0, 1, 1), 2);
        });
        Check.test("10 split: KEY 9999, the last below HIGH; a SPAN ends at 10000", () -> {
            RangeHouse x = Check.withRows(9998, 9999);
            Check.due("split", x.split(0, 9999), 1);
            Check.rangeIs(x, 0, 0, 9999, 2, 0, NONE, 0, 1);
            Check.rangeIs(x, 1, 9999, 10000, 2, 0, NONE, 0, 1);
            Check.due("20 row of 9998", x.row(0, 0, 9998), 9999);
            Check.due("20 row of 9999", x.row(0, 1, 9999), 10000);
            x.learn(0);
            Check.copyIs(x, 0, 9998, 0, 2, 0, 0, 9999);
            Check.copyIs(x, 0, 9999, 1, 2, 0, 9999, 10000);
            Check.answerIs(x, 0, Check.done(x, 0, 0, 9999, 0, 0), 10000, 1);
        });
        Check.test("10 split: the first and the last KEY within 100 to 200", () -> {
            RangeHouse x = Houses.withRanges(3);
            Check.due("split at 101", x.split(1, 101), 3);
            Check.due("split at 199", x.split(3, 199), 4);
            Check.due("LOW of 1", x.range(1, 0) + x.range(1, 1), 201);
            Check.due("LOW and HIGH of 3", x.range(3, 0) + x.range(3, 1), 300);
            Check.due("LOW and HIGH of 4", x.range(4, 0) + x.range(4, 1), 399);
        });
        Check.test("all SPANS together are all KEYS, once: 40 RANGES, some merged", () -> {
            RangeHouse x = Houses.withRanges(40);
            x.merge(1, 0);
            x.merge(38, 39);
            int next = 0;
            for (int r = 1; r < 39; r++) {
                Check.due("LOW of " + r, x.range(r, 0), next);
                next = x.range(r, 1);
            }
            Check.due("the last HIGH", next, 10000);
        });
        Check.test("11 merge: of 0 to 1 and 1 to 10000", () -> {
            RangeHouse x = new RangeHouse();
            x.split(0, 1);
            Check.due("merge", x.merge(0, 1), 3);
            Check.rangeIs(x, 0, 0, 10000, 3, 0, NONE, 0, 1);
        });
        Check.test("11 merge: of 9999 to 10000 and 0 to 9999", () -> {
            RangeHouse x = oneKey();
            Check.due("merge", x.merge(1, 0), 3);
            Check.rangeIs(x, 1, 0, 10000, 3, 0, NONE, 0, 1);
        });
    }

    private static void firstAndLastHosts() {
        for (int host : new int[] {0, 5}) {
            Check.test("HOST " + host + " steps, falls, rises, weighs, is asked of", () -> {
                RangeHouse x = new RangeHouse();
                Check.due("12 step", x.step(host), 0);
                Check.due("15 fall", x.fall(host), 0);
                Check.due("24 HOSTS UP", x.status(5), 5);
                Check.due("16 rise", x.rise(host), 1);
                Check.due("21 weight", x.weight(host), 0);
                Check.due("19 at", x.at(host, 0, 0), host == 0 ? 1 : 0);
            });
        }
        Check.test("8 move: to HOST 5, the last, and back to HOST 0, the first", () -> {
            RangeHouse x = Check.withRows(7);
            Check.moveWholly(x, 0, 5);
            Check.due("20 row at 5", x.row(5, 0, 7), 8);
            Check.due("21 weight of 5", x.weight(5), 1);
            Check.moveWholly(x, 0, 0);
            Check.due("20 row at 0", x.row(0, 0, 7), 8);
            Check.due("21 weight of 0", x.weight(0), 1);
        });
        Check.test("8 move: RANGE 39, the last of 40", () -> {
            RangeHouse x = Houses.withRanges(40);
            Check.moveWholly(x, 39, 5);
            Check.due("19 at", x.at(5, 39, 0), 1);
        });
    }

    private static void firstAndLastLetters() {
        Check.test("LETTERS 0 and 1199, the first and the last, are asked of and lost", () -> {
            RangeHouse x = Houses.withLetters(1200);
            Check.due("17 KIND of 0", x.letter(0, 0), 3);
            Check.due("17 KIND of 1199", x.letter(1199, 0), 0);
            Check.due("14 lose(0)", x.lose(0), 1);
            Check.due("14 lose(1199)", x.lose(1199), 1);
            Check.due("17 LOST", x.letter(1199, 5), 1);
        });
        Check.test("17 letter: what 0 and what 10", () -> {
            RangeHouse x = Houses.plainMove(Houses.BEGIN_AGAIN);
            Check.due("KIND", x.letter(Houses.END, 0), 4);
            Check.due("KEYS", x.letter(Houses.END, 10), -1);
        });
        Check.test("24 status: the first and the last what: 0, 7, 11, 16", () -> {
            RangeHouse x = sixCallers();
            x.move(0, 1);
            x.undo(0);
            x.undo(1);
            x.caller();
            Check.due("status(0)", x.status(0), 1);
            Check.due("status(7)", x.status(7), 1);
            Check.due("status(11)", x.status(11), 1);
            Check.due("status(16)", x.status(16), 1);
        });
        Check.test("23 order: the first and the last CALL that was DONE", () -> {
            RangeHouse x = Houses.withCalls(3);
            x.deliver(2);
            x.deliver(0);
            Check.due("order(0, 1)", x.order(0, 1), 2);
            Check.due("order(1, 1)", x.order(1, 1), 0);
            Check.due("order(1, 4)", x.order(1, 4), 1);
            Check.due("order(2, 1)", x.order(2, 1), NONE);
        });
    }
}
