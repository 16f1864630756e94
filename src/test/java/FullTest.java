/** Full: 60 ROWS, 60 CALLS, 40 RANGES, 1200 LETTERS, 6 CALLERS, 4 KEPT ANSWERS, 3 KEYS in a PART: the last that fits, and one more. */
public final class FullTest {
    private static final int NONE = Check.NONE;

    public static void main(String[] args) {
        sixtyRows();
        sixtyRowsInAMove();
        sixtyRowsOfTwo();
        sixtyCalls();
        fortyRanges();
        lettersOfCalls();
        lettersOfMoves();
        lettersOfSteps();
        lettersOfDeliveries();
        sixCallers();
        fourKept();
        fourKeptOfTwo();
        threeKeys();
        Check.end("FullTest");
    }

    private static RangeHouse full() {
        return Houses.withRowsFrom100(60);
    }

    /** CALLER 1's CALL in a RANGE of 60 ROWS. */
    private static void doneInFull(String name, int kind, int key, long v, long w, long value, int sign, int rows) {
        Check.test("60 ROWS: " + name, () -> {
            RangeHouse x = full();
            Check.due("19 ROWS", x.at(0, 0, 2), 60);
            Check.answerIs(x, 1, Check.done(x, 1, kind, key, v, w), value, sign);
            Check.due("19 ROWS", x.at(0, 0, 2), rows);
            Check.due("24 DONE", x.status(4), 61);
            Check.due("19 KEPT ANSWERS", x.at(0, 0, 8), 5);
            for (int other = 101; other < 159; other++) {
                Check.due("20 row", x.row(0, 0, other), other + 1);
            }
        });
    }

    private static void sixtyRows() {
        Check.test("60 ROWS: the 60th WRITE of a new ROW is done", () -> {
            RangeHouse x = Houses.withRowsFrom100(59);
            Check.answerIs(x, 1, Check.done(x, 1, 1, 7, 8, 0), 0, 0);
            Check.due("19 ROWS", x.at(0, 0, 2), 60);
            Check.due("20 row", x.row(0, 0, 7), 8);
        });
        Check.test("60 ROWS: the 60th ROW by an ADD is done", () -> {
            RangeHouse x = Houses.withRowsFrom100(59);
            Check.answerIs(x, 1, Check.done(x, 1, 3, 9999, 8, 0), 8, 0);
            Check.due("19 ROWS", x.at(0, 0, 2), 60);
            Check.due("20 row", x.row(0, 0, 9999), 8);
        });
        doneInFull("a WRITE of a new ROW does nothing: 0, SIGN 2", 1, 7, 8, 0, 0, 2, 60);
        doneInFull("an ADD of a new ROW does nothing: 0, SIGN 2", 3, 7, 8, 0, 0, 2, 60);
        doneInFull("a WRITE of a ROW that is there is done", 1, 100, 8, 0, 101, 1, 60);
        doneInFull("an ADD to a ROW that is there is done", 3, 159, 8, 0, 168, 1, 60);
        doneInFull("a SWAP is done", 4, 100, 101, 8, 101, 1, 60);
        doneInFull("a SWAP without a ROW: SIGN 0", 4, 7, 0, 8, 0, 0, 60);
        doneInFull("a READ without a ROW: SIGN 0", 0, 7, 0, 0, 0, 0, 60);
        doneInFull("a STRIKE makes room", 2, 100, 0, 0, 101, 1, 59);
        doneInFull("a STRIKE without a ROW makes none", 2, 7, 0, 0, 0, 0, 60);
        Check.test("60 ROWS: a WRITE of a new ROW behind a STRIKE is done", () -> {
            RangeHouse x = full();
            Check.done(x, 1, 2, 130, 0, 0);
            Check.answerIs(x, 1, Check.done(x, 1, 1, 7, 8, 0), 0, 0);
            Check.answerIs(x, 1, Check.done(x, 1, 1, 8, 9, 0), 0, 2);
            Check.due("20 row", x.row(0, 0, 7), 8);
            Check.due("20 row", x.row(0, 0, 8), 0);
            Check.due("20 row", x.row(0, 0, 130), 0);
        });
        Check.test("60 ROWS: the ANSWER with SIGN 2 is KEPT, though there is room by now", () -> {
            RangeHouse x = full();
            x.call(1, 1, 7, 8, 0);
            int call = Check.last(x);
            x.deliver(call);
            Check.done(x, 1, 2, 100, 0, 0);
            x.deliver(call);
            x.deliver(Check.last(x));
            Check.answerIs(x, 1, 0, 0, 2);
            Check.due("20 row", x.row(0, 0, 7), 0);
        });
        Check.test("60 ROWS are of a RANGE, not of a HOST", () -> {
            RangeHouse x = full();
            x.split(0, 200);
            x.learn(1);
            Check.answerIs(x, 1, Check.done(x, 1, 1, 200, 8, 0), 0, 0);
            Check.answerIs(x, 1, Check.done(x, 1, 1, 199, 8, 0), 0, 2);
            Check.due("21 weight", x.weight(0), 61);
        });
    }

    private static void sixtyRowsInAMove() {
        Check.test("60 ROWS: 60 KEYS to be sent, 20 PARTS of 3, the END is PART 20", () -> {
            RangeHouse x = full();
            x.move(0, 1);
            x.deliver(Check.last(x));
            for (int part = 0; part < 20; part++) {
                Check.due("19 KEYS to be sent", x.at(0, 0, 7), 60 - 3 * part);
                x.step(0);
                Check.due("17 m", x.letter(Check.last(x), 9), part);
                Check.due("17 KEYS", x.letter(Check.last(x), 10), 3);
                x.deliver(Check.last(x));
                x.deliver(Check.last(x));
            }
            x.step(0);
            Check.due("17 m", x.letter(Check.last(x), 9), 20);
            Check.due("17 the END", x.letter(Check.last(x), 10), -1);
            x.deliver(Check.last(x));
            Check.due("19 READY with 60 ROWS", x.at(1, 0, 0) * 100 + x.at(1, 0, 2), 560);
        });
        Check.test("60 ROWS: what does nothing (SIGN 2) is no KEY to be sent", () -> {
            RangeHouse x = full();
            x.move(0, 1);
            x.deliver(Check.last(x));
            Check.answerIs(x, 1, Check.done(x, 1, 1, 7, 8, 0), 0, 2);
            Check.answerIs(x, 1, Check.done(x, 1, 3, 7, 8, 0), 0, 2);
            Check.due("19 KEYS to be sent", x.at(0, 0, 7), 60);
        });
        Check.test("60 ROWS: at the taker too a new ROW has no room", () -> {
            RangeHouse x = full();
            Check.moveWholly(x, 0, 2);
            x.learn(1);
            Check.answerIs(x, 1, Check.done(x, 1, 1, 7, 8, 0), 0, 2);
            Check.due("21 weight", x.weight(2), 60);
        });
    }

    private static void sixtyRowsOfTwo() {
        Check.test("11 merge: 60 ROWS of both", () -> {
            RangeHouse x = full();
            x.split(0, 130);
            Check.due("merge", x.merge(1, 0), 3);
            Check.due("19 ROWS", x.at(0, 1, 2), 60);
            for (int key = 100; key < 160; key++) {
                Check.due("20 row", x.row(0, 1, key), key + 1);
            }
        });
        Check.test("11 merge: 61 ROWS of both, and 60 behind a STRIKE", () -> {
            RangeHouse x = full();
            x.split(0, 200);
            x.learn(1);
            Check.done(x, 1, 1, 200, 8, 0);
            Check.due("merge", x.merge(0, 1), -5);
            Check.done(x, 1, 2, 100, 0, 0);
            Check.due("merge", x.merge(0, 1), 3);
            Check.due("19 ROWS", x.at(0, 0, 2), 60);
            Check.due("20 row", x.row(0, 0, 200), 8);
        });
        Check.test("11 merge: 60 ROWS and none", () -> {
            RangeHouse x = full();
            x.split(0, 200);
            Check.due("merge", x.merge(1, 0), 3);
            Check.due("19 ROWS", x.at(0, 1, 2), 60);
        });
    }

    private static void sixtyCalls() {
        Check.test("60 CALLS: the 60th has the count 59, a 61st is -6", () -> {
            RangeHouse x = Houses.withCalls(59);
            Check.due("call", x.call(0, 0, 5, 0, 0), 59);
            Check.due("call", x.call(0, 0, 5, 0, 0), -6);
            Check.due("answer", x.answer(0, 60, 3), NONE);
            Check.due("24 LETTERS", x.status(3), 60);
        });
        Check.test("60 CALLS are of this CALLER alone", () -> {
            RangeHouse x = Houses.withCalls(60);
            x.caller();
            Check.due("call", x.call(1, 0, 5, 0, 0), 0);
        });
        Check.test("60 CALLS: again is no CALL more", () -> {
            RangeHouse x = Houses.withCalls(60);
            Check.due("again", x.again(0, 59), 60);
            Check.due("5 how often it was sent", x.answer(0, 59, 5), 2);
        });
        Check.test("60 CALLS: those that are ANSWERED count too", () -> {
            RangeHouse x = Houses.withCallers(1);
            for (int i = 0; i < 60; i++) {
                Check.done(x, 0, 0, 5, 0, 0);
            }
            Check.due("call", x.call(0, 0, 5, 0, 0), -6);
        });
    }

    private static void fortyRanges() {
        Check.test("40 RANGES: the 40th has the number 39, a 41st is -6", () -> {
            RangeHouse x = Houses.withRanges(39);
            Check.due("10 split", x.split(38, 9000), 39);
            Check.due("10 split", x.split(39, 9500), -6);
            Check.due("24 RANGES", x.status(0), 40);
            Check.due("24 ever made", x.status(1), 40);
        });
        Check.test("40 RANGES: numbers are never given again", () -> {
            RangeHouse x = Houses.withRanges(40);
            Check.due("11 merge", x.merge(38, 39), 41);
            Check.due("24 RANGES", x.status(0), 39);
            Check.due("24 ever made", x.status(1), 40);
            Check.due("10 split", x.split(38, 9000), -6);
            Check.due("18 the other is no more", x.range(39, 0), NONE);
        });
        Check.test("fewer than 40 RANGES: a number is not given again", () -> {
            RangeHouse x = Houses.withRanges(2);
            x.merge(0, 1);
            Check.due("10 split", x.split(0, 5), 2);
            Check.due("18 range(1, 0)", x.range(1, 0), NONE);
        });
        Check.test("40 RANGES: all 40 are learnt", () -> {
            RangeHouse x = Houses.withRanges(40);
            x.caller();
            Check.due("6 learn", x.learn(0), 40);
            Check.copyIs(x, 0, 9999, 39, 40, 0, 3900, 10000);
        });
    }

    private static void lettersOfCalls() {
        Check.test("1200 LETTERS: the last one is a CALL, sent again; one more is -6", () -> {
            RangeHouse x = Houses.withLetters(1199);
            Check.due("4 again", x.again(0, 0), 1199);
            Check.due("4 again", x.again(0, 0), -6);
            Check.due("5 how often it was sent", x.answer(0, 0, 5), 2);
            Check.due("24 LETTERS", x.status(3), 1200);
        });
        Check.test("1200 LETTERS: the last one is a new CALL; one more is -6", () -> {
            RangeHouse x = Houses.withLetters(1199);
            Check.due("3 call", x.call(1, 0, 5, 0, 0), 0);
            Check.due("3 call", x.call(1, 0, 5, 0, 0), -6);
            Check.due("17 KIND", x.letter(1199, 0), 0);
            Check.due("5 no such count", x.answer(1, 1, 3), NONE);
        });
        Check.test("1200 LETTERS: what sends none goes on", () -> {
            RangeHouse x = Houses.withLetters(1200);
            Check.due("2 caller", x.caller(), 2);
            Check.due("6 learn", x.learn(0), 40);
            Check.due("11 merge", x.merge(39, 38), 41);
            Check.due("14 lose", x.lose(1199), 1);
            Check.due("15 fall", x.fall(1), 0);
            Check.due("16 rise", x.rise(1), 1);
            Check.due("12 step of one with none to send", x.step(1), 0);
            Check.due("24 LETTERS", x.status(3), 1200);
        });
        Check.test("1200 LETTERS: a split sends none", () -> {
            RangeHouse x = Houses.withRanges(39);
            for (int r = 0; r < 38; r++) {
                x.move(r, 1);
            }
            for (int sent = 38; sent + 38 <= 1200; sent += 38) {
                x.step(0);
            }
            x.caller();
            for (int sent = x.status(3); sent < 1200; sent++) {
                x.call(0, 0, 5, 0, 0);
            }
            Check.due("24 LETTERS", x.status(3), 1200);
            Check.due("10 split", x.split(38, 9000), 39);
        });
    }

    private static void lettersOfMoves() {
        Check.test("1200 LETTERS: the last one is the BEGIN of a MOVE; one more is -6", () -> {
            RangeHouse x = Houses.withLetters(1199);
            Check.due("8 move", x.move(38, 1), x.range(38, 2) + 1);
            Check.due("17 KIND", x.letter(1199, 0), 3);
            Check.due("8 move", x.move(39, 1), -6);
            Check.due("18 no MOVE", x.range(39, 4), NONE);
        });
        Check.test("1200 LETTERS: the last two are UNDO and DROP", () -> {
            RangeHouse x = Houses.withLetters(1198);
            Check.due("9 undo", x.undo(0), x.range(0, 2));
            Check.due("17 KIND", x.letter(1198, 0), 11);
            Check.due("17 KIND", x.letter(1199, 0), 13);
            Check.due("24 undone", x.status(7), 1);
        });
        Check.test("1199 LETTERS: undo, with two, is -6", () -> {
            RangeHouse x = Houses.withLetters(1199);
            Check.due("9 undo", x.undo(0), -6);
            Check.due("24 undone", x.status(7), 0);
            Check.due("18 the taker", x.range(0, 4), 1);
        });
    }

    private static void lettersOfSteps() {
        Check.test("1200 LETTERS: a step with 38, room for 38", () -> {
            RangeHouse x = Houses.withLetters(1162);
            Check.due("12 step", x.step(0), 38);
            Check.due("24 LETTERS", x.status(3), 1200);
            Check.due("17 RANGE of the last", x.letter(1199, 3), 37);
        });
        Check.test("1200 LETTERS: a step with 38 BEGINS, OPEN, GO and DONE, room for 41", () -> {
            RangeHouse x = Houses.withOwedAndLetters(1159);
            Check.due("12 step", x.step(0), 41);
            int[] kinds = {7, 9, 6};
            for (int i = 0; i < 3; i++) {
                Check.due("17 KIND", x.letter(1197 + i, 0), kinds[i]);
            }
        });
        Check.test("1200 LETTERS: a step that has no room leaves GIVING as it was", () -> {
            RangeHouse x = Houses.withLetters(1163);
            x.deliver(0);
            Check.due("12 step", x.step(0), -6);
            Check.due("19 GIVING", x.at(0, 0, 0), 2);
        });
    }

    private static void lettersOfDeliveries() {
        Check.test("1198 LETTERS: a DONE is delivered: OPEN and GO are the last two", () -> {
            RangeHouse x = doneAt1198();
            Check.due("13 deliver", x.deliver(Houses.DONE), 1);
            Check.due("17 KIND", x.letter(1198, 0), 7);
            Check.due("17 KIND", x.letter(1199, 0), 9);
            Check.due("24 MOVES over", x.status(6), 1);
        });
        Check.test("1198 LETTERS: a CALL is delivered, and its ANSWER is the 1199th", () -> {
            RangeHouse x = Houses.withLetters(1198);
            Check.due("13 deliver", x.deliver(1197), 1);
            Check.due("17 KIND", x.letter(1198, 0), 1);
            Check.due("13 deliver of the ANSWER", x.deliver(1198), -6);
            Check.due("5 ANSWERED", x.answer(0, 0, 0), 0);
        });
        Check.test("1199 LETTERS: none is delivered, whatever it would do", () -> {
            RangeHouse x = Houses.withLetters(1199);
            Check.due("13 deliver of a BEGIN", x.deliver(0), -6);
            Check.due("19 WHOLE", x.at(0, 0, 0), 1);
            Check.due("13 deliver of a CALL", x.deliver(1198), -6);
            Check.due("17 how often it was delivered", x.letter(1198, 6), 0);
            Check.due("24 DONE", x.status(4), 0);
        });
    }

    /** RANGE 38's DONE (LETTER 4) is there and not delivered; 1198 LETTERS. */
    private static RangeHouse doneAt1198() {
        RangeHouse x = Houses.withRanges(40);
        x.move(38, 1);
        x.deliver(Houses.BEGIN);
        x.step(0);
        x.deliver(Houses.END);
        x.deliver(Houses.TOOK);
        int sent = x.status(3);
        for (int r = 0; r < 38; r++, sent++) {
            x.move(r, 2);
        }
        for (; sent + 40 <= 1198; sent += 40) {
            x.step(0);
        }
        x.caller();
        for (; sent < 1198; sent++) {
            x.call(0, 0, 5, 0, 0);
        }
        Check.due("24 LETTERS", x.status(3), 1198);
        return x;
    }

    private static void sixCallers() {
        Check.test("6 CALLERS: the 6th has the number 5, a 7th is -6", () -> {
            RangeHouse x = Houses.withCallers(5);
            Check.due("2 caller", x.caller(), 5);
            Check.due("2 caller", x.caller(), -6);
            Check.due("24 CALLERS", x.status(2), 6);
            Check.due("6 learn", x.learn(6), -1);
        });
        Check.test("6 CALLERS: each has 4 KEPT ANSWERS: 24", () -> {
            RangeHouse x = Houses.withCallers(6);
            for (int caller = 0; caller < 6; caller++) {
                for (int i = 0; i < 5; i++) {
                    Check.done(x, caller, 3, 9, 1, 0);
                }
            }
            Check.due("19 KEPT ANSWERS", x.at(0, 0, 8), 24);
            Check.due("20 row", x.row(0, 0, 9), 30);
        });
    }

    /** One CALLER with so many ADDS of 1 to KEY 9, the first LETTERS, none delivered. */
    private static RangeHouse withAdds(int adds) {
        RangeHouse x = Houses.withCallers(1);
        for (int i = 0; i < adds; i++) {
            x.call(0, 3, 9, 1, 0);
        }
        return x;
    }

    private static void delivered(RangeHouse x, int... letters) {
        for (int l : letters) {
            x.deliver(l);
        }
    }

    private static void fourKept() {
        Check.test("4 KEPT ANSWERS: a 5th, greater, takes the place of the least", () -> {
            RangeHouse x = withAdds(5);
            delivered(x, 0, 1, 2, 3);
            Check.due("19 KEPT ANSWERS", x.at(0, 0, 8), 4);
            x.deliver(4);
            Check.due("19 KEPT ANSWERS", x.at(0, 0, 8), 4);
            Check.due("24 LETTERS", x.status(3), 10);
            x.deliver(0);
            Check.due("24 LETTERS", x.status(3), 10);
            x.deliver(1);
            Check.due("24 LETTERS", x.status(3), 11);
            Check.due("24 DONE", x.status(4), 5);
        });
        Check.test("4 KEPT ANSWERS: below all of 4: nothing, not even DONE", () -> {
            RangeHouse x = withAdds(5);
            delivered(x, 1, 2, 3, 4, 0);
            Check.due("24 LETTERS", x.status(3), 9);
            Check.due("24 DONE", x.status(4), 4);
            Check.due("20 row", x.row(0, 0, 9), 4);
        });
        Check.test("3 KEPT ANSWERS: below all of 3: DONE and KEPT", () -> {
            RangeHouse x = withAdds(4);
            delivered(x, 1, 2, 3, 0);
            Check.due("24 DONE", x.status(4), 4);
            Check.due("19 KEPT ANSWERS", x.at(0, 0, 8), 4);
            x.deliver(0);
            Check.due("24 LETTERS", x.status(3), 9);
            Check.due("24 DONE", x.status(4), 4);
        });
        Check.test("4 KEPT ANSWERS: above the least of 4, below the others: DONE, and the least goes", () -> {
            RangeHouse x = withAdds(5);
            delivered(x, 0, 2, 3, 4, 1);
            Check.due("24 DONE", x.status(4), 5);
            Check.due("19 KEPT ANSWERS", x.at(0, 0, 8), 4);
            delivered(x, 0);
            Check.due("24 LETTERS", x.status(3), 10);
            delivered(x, 1, 2, 3, 4);
            Check.due("24 LETTERS", x.status(3), 14);
            Check.due("24 DONE", x.status(4), 5);
        });
        Check.test("4 KEPT ANSWERS: each goes back with its own value and SIGN", () -> {
            RangeHouse x = withAdds(5);
            delivered(x, 4, 3, 2, 1);
            for (int count = 1; count < 5; count++) {
                x.deliver(count);
                x.deliver(Check.last(x));
                Check.answerIs(x, 0, count, 5 - count, count == 4 ? 0 : 1);
            }
        });
        Check.test("4 KEPT ANSWERS: another CALLER's do not stand in the way", () -> {
            RangeHouse x = withAdds(5);
            delivered(x, 1, 2, 3, 4);
            x.caller();
            x.call(1, 3, 9, 1, 0);
            x.deliver(Check.last(x));
            Check.due("24 DONE", x.status(4), 5);
            Check.due("19 KEPT ANSWERS", x.at(0, 0, 8), 5);
        });
    }

    private static void fourKeptOfTwo() {
        Check.test("10 split: both have all 4 KEPT ANSWERS", () -> {
            RangeHouse x = withAdds(5);
            delivered(x, 0, 1, 2, 3, 4);
            x.split(0, 9);
            Check.due("19 KEPT ANSWERS of 0", x.at(0, 0, 8), 4);
            Check.due("19 KEPT ANSWERS of 1", x.at(0, 1, 8), 4);
        });
        Check.test("11 merge: of 4 and the same 4 those are KEPT", () -> {
            RangeHouse x = withAdds(4);
            delivered(x, 0, 1, 2, 3);
            x.split(0, 9);
            x.merge(0, 1);
            Check.due("19 KEPT ANSWERS", x.at(0, 0, 8), 4);
        });
        Check.test("11 merge: of 1 and the same 1 that is KEPT, once", () -> {
            RangeHouse x = withAdds(1);
            delivered(x, 0);
            x.split(0, 9);
            x.merge(0, 1);
            Check.due("19 KEPT ANSWERS", x.at(0, 0, 8), 1);
        });
        keptOfMerge("4 and 4 in turns", 4, 9, 109, 9, 109, 9, 109, 9, 109);
        keptOfMerge("4 and 4 above them", 4, 9, 9, 9, 9, 109, 109, 109, 109);
        keptOfMerge("4 and 4 below them", 4, 109, 109, 109, 109, 9, 9, 9, 9);
        keptOfMerge("2 and 3", 1, 109, 9, 109, 9, 109);
        keptOfMerge("1 and 3", 0, 109, 109, 9, 109);
        keptOfMerge("4 and none", 0, 9, 9, 9, 9);
        keptOfMerge("none and 4", 0, 109, 109, 109, 109);
    }

    /** CALLS of KEYS of RANGE 0 (9) and RANGE 1 (109), which are merged, in both orders: those from a count on are KEPT. */
    private static void keptOfMerge(String name, int from, int... keys) {
        for (int first = 0; first < 2; first++) {
            int a = first;
            Check.test("11 merge: of " + name + " the 4 greatest counts are KEPT, by merge(" + a + ", " + (1 - a) + ")", () -> {
                RangeHouse x = Houses.withRanges(2);
                x.caller();
                for (int i = 0; i < keys.length; i++) {
                    x.call(0, 3, keys[i], 1, 0);
                    x.deliver(2 * i);
                }
                x.merge(a, 1 - a);
                Check.due("19 KEPT ANSWERS", x.at(0, a, 8), keys.length - from);
                x.learn(0);
                for (int count = 0; count < keys.length; count++) {
                    int sent = x.again(0, count) + 1;
                    x.deliver(sent - 1);
                    Check.due("an ANSWER of " + count, x.status(3) - sent, count < from ? 0 : 1);
                }
                Check.due("24 DONE", x.status(4), keys.length);
            });
        }
    }

    private static void threeKeys() {
        int[][] parts = {{}, {1}, {2}, {3}, {3, 1}, {3, 2}, {3, 3}, {3, 3, 1}};
        for (int rows = 0; rows < parts.length; rows++) {
            int n = rows;
            Check.test("3 KEYS in a PART: " + n + " ROWS go in " + parts[n].length + " PARTS and the END", () -> {
                RangeHouse x = Houses.withRowsFrom100(n);
                x.move(0, 1);
                x.deliver(Check.last(x));
                Check.due("19 KEYS to be sent", x.at(0, 0, 7), n);
                int left = n;
                for (int m = 0; m < parts[n].length; m++) {
                    x.step(0);
                    left -= parts[n][m];
                    Check.letterIs(x, Check.last(x), 4, 1, 0, 0, 2, NONE, 1, m, parts[n][m]);
                    Check.due("19 KEYS to be sent", x.at(0, 0, 7), left);
                    x.deliver(Check.last(x));
                    Check.due("19 ROWS of TAKING", x.at(1, 0, 2), n - left);
                    Check.due("20 row of the last KEY that went", x.row(1, 0, 99 + n - left), 100 + n - left);
                    x.deliver(Check.last(x));
                }
                x.step(0);
                Check.letterIs(x, Check.last(x), 4, 1, 0, 0, 2, NONE, 1, parts[n].length, -1);
            });
        }
    }
}
