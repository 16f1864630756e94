/** Promises 13, 14 and 17: deliver, lose, letter; and 1200 LETTERS. */
public final class LetterTest {
    private static final int NONE = Check.NONE;

    public static void main(String[] args) {
        deliver();
        lose();
        letter();
        nearTheLimit();
        atTheLimit();
        undoNeedsTwo();
        stepNeedsAll();
        Check.end("LetterTest");
    }

    private static void deliver() {
        RangeHouse x = new RangeHouse();
        Check.due("13: no LETTER", x.deliver(0), -1);
        Check.due("13: no LETTER", x.deliver(-1), -1);
        x.caller();
        x.call(0, 3, 5, 1, 0);
        Check.due("13: no LETTER", x.deliver(1), -1);
        x.fall(0);
        Check.due("13: DOWN", x.deliver(0), 0);
        Check.due("13: it did nothing", x.status(4), 0);
        Check.due("13: it did nothing", x.status(3), 1);
        Check.due("13: no REFUSAL", x.status(14), 0);
        x.rise(0);
        Check.due("13: deliver(0)", x.deliver(0), 1);
        Check.due("13: deliver(0) again", x.deliver(0), 1);
        Check.due("13: once DONE", x.row(0, 0, 5), 1);
        x.fall(0);
        Check.due("13: to a CALLER, whatever its number's HOST", x.deliver(1), 1);
        Check.answerIs(x, 0, 0, 1, 0);
        x.lose(2);
        Check.due("13: LOST", x.deliver(2), -5);
        Check.due("13: not LOST", x.deliver(1), 1);
        Check.due("17: how often", x.letter(1, 6), 2);
        Check.due("17: how often", x.letter(2, 6), 0);
    }

    private static void lose() {
        RangeHouse x = new RangeHouse();
        Check.due("14: no LETTER", x.lose(0), -1);
        x.caller();
        x.call(0, 1, 5, 1, 0);
        Check.due("14: no LETTER", x.lose(-1), -1);
        Check.due("14: no LETTER", x.lose(1), -1);
        x.deliver(0);
        Check.due("17: not LOST", x.letter(0, 5), 0);
        Check.due("14: lose(0)", x.lose(0), 1);
        Check.due("17: LOST", x.letter(0, 5), 1);
        Check.due("14: lose(0) again", x.lose(0), -5);
        Check.due("13: LOST", x.deliver(0), -5);
        Check.due("17: how often", x.letter(0, 6), 1);
        Check.due("17: the other is not LOST", x.letter(1, 5), 0);
        Check.due("14: status(11)", x.status(11), 3);
        Check.due("14: status(15)", x.status(15), 2);
    }

    private static void letter() {
        RangeHouse x = new RangeHouse();
        Check.due("17: no LETTER", x.letter(0, 0), NONE);
        for (int i = 0; i < 4; i++) {
            x.caller();
        }
        x.call(3, 1, 5, 1, 0);
        Check.letterIs(x, 0, 0, 0, 3, 0, 1, 0, NONE, NONE, NONE);
        x.deliver(0);
        Check.letterIs(x, 1, 1, 3, 0, NONE, NONE, 0, NONE, NONE, NONE);
        Check.due("17: no LETTER", x.letter(2, 0), NONE);
        Check.due("17: no LETTER", x.letter(-1, 0), NONE);
        Check.due("17: what 11", x.letter(0, 11), NONE);
        Check.due("17: what -1", x.letter(0, -1), NONE);
        Check.due("17: no REFUSAL", x.status(11), 0);
    }

    private static void nearTheLimit() {
        RangeHouse x = Houses.withLetters(1197);
        Check.due("12: 38 are too many", x.step(0), -6);
        Check.due("13: 1197 were sent", x.deliver(0), 1);
        Check.due("0 is GIVING", x.at(0, 0, 0), 2);
        Check.due("12: 39 are too many", x.step(0), -6);
        Check.due("12: nothing is done then", x.at(0, 0, 0), 2);
        Check.due("4: again", x.again(0, 0), 1197);
        Check.due("13: 1198 were sent", x.deliver(1197), 1);
        Check.due("1199 were sent", x.status(3), 1199);
        Check.due("13: 1199 were sent", x.deliver(1), -6);
        Check.due("17: that is no delivery", x.letter(1, 6), 0);
        Check.due("13: to a CALLER too", x.deliver(1198), -6);
        x.fall(0);
        Check.due("13: ROOM before 0", x.deliver(1), -6);
        x.rise(0);
        x.lose(1);
        Check.due("13: STATE before ROOM", x.deliver(1), -5);
        Check.due("13: NOBODY before ROOM", x.deliver(1199), -1);
        Check.due("9: two are too many", x.undo(3), -6);
        Check.due("9: nothing is done then", x.range(3, 4), 4);
        Check.due("8: one more", x.move(38, 1), x.range(38, 2) + 1);
        Check.due("1200 were sent", x.status(3), 1200);
        Check.due("8: no room", x.move(39, 1), -6);
        Check.due("8: nothing is done then", x.range(39, 4), NONE);
    }

    private static void atTheLimit() {
        RangeHouse x = Houses.withLetters(1200);
        int before = x.status(16);
        Check.due("1200 were sent", x.status(3), 1200);
        Check.due("3: call", x.call(1, 0, 0, 0, 0), -6);
        Check.due("5: no such count", x.answer(1, 0, 3), NONE);
        Check.due("4: again", x.again(0, 0), -6);
        Check.due("5: sent once", x.answer(0, 0, 5), 1);
        Check.due("8: move", x.move(39, 1), -6);
        Check.due("9: undo", x.undo(0), -6);
        Check.due("12: step(0)", x.step(0), -6);
        Check.due("12: none are needed", x.step(1), 0);
        Check.due("13: deliver", x.deliver(0), -6);
        Check.due("14: lose", x.lose(1199), 1);
        Check.due("8: STATE before ROOM", x.move(0, 1), -5);
        Check.due("17: the last", x.letter(1199, 5), 1);
        Check.due("17: no LETTER", x.letter(1200, 0), NONE);
        Check.due("11: merge needs none", x.merge(39, 38), 41);
        Check.due("6: learn needs none", x.learn(0), 39);
        Check.due("24: status(16)", x.status(16), before + 6);
        Check.due("1200 were sent", x.status(3), 1200);
    }

    private static void undoNeedsTwo() {
        RangeHouse x = Houses.withLetters(1198);
        int epoch = x.range(0, 2);
        Check.due("9: undo", x.undo(0), epoch + 2);
        Check.due("1200 were sent", x.status(3), 1200);
        Check.due("17: the last", x.letter(1199, 0), 13);
    }

    private static void stepNeedsAll() {
        RangeHouse x = Houses.withLetters(1162);
        Check.due("12: 38 fit", x.step(0), 38);
        RangeHouse y = Houses.withLetters(1163);
        Check.due("12: 38 do not", y.step(0), -6);
        Check.due("12: none is sent then", y.status(3), 1163);
        y.undo(0);
        y.deliver(1163);
        y.deliver(1164);
        y.deliver(1165);
        y.deliver(1166);
        Check.due("1167 were sent", y.status(3), 1167);
        Check.due("12: 37 do not", y.step(0), -6);
    }
}
