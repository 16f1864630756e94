/** Promises 18, 22, 23 and 24: range, plan, order, status. */
public final class BookTest {
    private static final int NONE = Check.NONE;

    public static void main(String[] args) {
        range();
        plan();
        planIsOfFreeRanges();
        planOfSeveral();
        planGoesToTheLeast();
        planComesFromTheGreatest();
        order();
        status();
        Check.end("BookTest");
    }

    private static void range() {
        RangeHouse x = new RangeHouse();
        Check.due("18: no RANGE", x.range(1, 0), NONE);
        Check.due("18: no RANGE", x.range(-1, 0), NONE);
        Check.due("18: no RANGE", x.range(40, 0), NONE);
        Check.due("18: what 7", x.range(0, 7), NONE);
        Check.due("18: what -1", x.range(0, -1), NONE);
        x.split(0, 4000);
        x.merge(1, 0);
        Check.due("18: one that is no more", x.range(0, 2), NONE);
        Check.rangeIs(x, 1, 0, 10000, 3, 0, NONE, 0, 1);
        x.move(1, 2);
        Check.rangeIs(x, 1, 0, 10000, 3, 0, 2, 0, 0);
        x.undo(1);
        Check.rangeIs(x, 1, 0, 10000, 5, 0, NONE, 12, 0);
        Check.deliverFrom(x, 0);
        Check.rangeIs(x, 1, 0, 10000, 5, 0, NONE, 0, 1);
        x.fall(0);
        Check.due("18: FREE at a HOST that is DOWN", x.range(1, 6), 1);
        Check.due("18: no REFUSAL", x.status(11), 0);
    }

    /** RANGES of 100 KEYS each from 0 on, with so many ROWS. */
    private static RangeHouse withRows(int... rows) {
        RangeHouse x = new RangeHouse();
        x.caller();
        x.caller();
        for (int r = 1; r < rows.length; r++) {
            x.split(r - 1, 100 * r);
        }
        x.learn(0);
        x.learn(1);
        int calls = 0;
        for (int r = 0; r < rows.length; r++) {
            for (int i = 0; i < rows[r]; i++) {
                Check.done(x, calls / 60, 1, 100 * r + i, 1, 0);
                calls++;
            }
        }
        return x;
    }

    private static void plan() {
        Check.due("22: no ROWS", new RangeHouse().plan(), NONE);
        RangeHouse x = withRows(5);
        Check.due("22: a whole HOST's ROWS are no less elsewhere", x.plan(), NONE);
        RangeHouse y = withRows(6, 4, 1);
        Check.due("22: 5 and 6, 7 and 4: to HOST 1", y.plan(), 1);
        Check.moveWholly(y, 0, 1);
        Check.due("22: from 1 (6) to 2 (0): none is less", y.plan(), NONE);
        RangeHouse z = withRows(2, 5, 4, 0);
        Check.due("22: 9 and 2, 6 and 5, 7 and 4", z.plan(), 11);
    }

    private static void planIsOfFreeRanges() {
        RangeHouse x = withRows(2, 5, 4);
        x.move(1, 1);
        Check.due("22: RANGE 1 is not FREE", x.plan(), 21);
        x.move(2, 1);
        Check.due("22: nor is 2", x.plan(), 1);
        x.move(0, 1);
        Check.due("22: nor is 0", x.plan(), NONE);
        x.undo(1);
        Check.due("22: UNDO and DROP are owed", x.plan(), NONE);
        Check.deliverFrom(x, x.status(3) - 2);
        Check.due("22: RANGE 1 is FREE", x.plan(), 11);
        x.fall(0);
        x.fall(1);
        Check.due("22: HOSTS that are DOWN weigh too", x.plan(), 11);
        Check.due("22: no REFUSAL", x.status(14), 0);
    }

    private static void planOfSeveral() {
        RangeHouse x = withRows(1, 3, 3, 1);
        Check.due("22: of 1 and 2 the least number", x.plan(), 11);
        RangeHouse y = withRows(0, 1, 1);
        Check.due("22: of 1 and 2 the least number with ROWS", y.plan(), 11);
        RangeHouse z = withRows(1, 2, 1);
        Check.due("22: the best one, not the first", z.plan(), 11);
    }

    private static void planGoesToTheLeast() {
        RangeHouse x = withRows(3, 3, 1, 1, 1, 1, 2, 1);
        Check.moveWholly(x, 0, 4);
        Check.moveWholly(x, 1, 2);
        Check.moveWholly(x, 2, 1);
        Check.moveWholly(x, 3, 3);
        Check.due("WEIGHT of 0", x.weight(0), 5);
        Check.due("22: from 0 (5) to 5 (0)", x.plan(), 65);
        Check.moveWholly(x, 6, 5);
        Check.due("WEIGHT of 0", x.weight(0), 3);
        Check.due("22: from 0 (3), not 2 or 4, to 1 (1), not 3", x.plan(), 41);
        Check.moveWholly(x, 4, 3);
        Check.due("22: from 2 (3) to 1 (1): RANGE 1 has 3 ROWS", x.plan(), NONE);
    }

    private static void planComesFromTheGreatest() {
        RangeHouse x = withRows(2, 1, 3, 2, 2, 2);
        Check.moveWholly(x, 2, 1);
        Check.moveWholly(x, 3, 1);
        Check.moveWholly(x, 4, 2);
        Check.moveWholly(x, 5, 2);
        Check.due("22: from 1 (5), not 0 (3) or 2 (4), to 3", x.plan(), 23);
        Check.moveWholly(x, 2, 3);
        Check.due("22: from 2 (4) to 4", x.plan(), 44);
    }

    private static void order() {
        RangeHouse x = new RangeHouse();
        Check.due("23: none was DONE", x.order(0, 0), NONE);
        x.caller();
        x.caller();
        x.call(1, 1, 5, 1, 0);
        x.call(0, 0, 5, 0, 0);
        x.call(1, 2, 6, 0, 0);
        x.deliver(2);
        x.deliver(0);
        x.deliver(0);
        orderIs(x, 0, 1, 1, 0, 0, 1);
        orderIs(x, 1, 1, 0, 0, 0, 1);
        Check.due("23: two were DONE", x.order(2, 0), NONE);
        x.split(0, 5);
        Check.moveWholly(x, 1, 4);
        x.learn(0);
        x.again(0, 0);
        x.deliver(Check.last(x));
        orderIs(x, 2, 0, 0, 4, 1, 3);
        Check.due("23: what 5", x.order(0, 5), NONE);
        Check.due("23: what -1", x.order(0, -1), NONE);
        Check.due("23: i -1", x.order(-1, 0), NONE);
        Check.due("23: i 3", x.order(3, 0), NONE);
        Check.due("24: 3 were DONE", x.status(4), 3);
    }

    private static void orderIs(RangeHouse x, int i, int... want) {
        for (int what = 0; what < want.length; what++) {
            Check.due("23: order(" + i + ", " + what + ")", x.order(i, what), want[what]);
        }
    }

    private static void status() {
        RangeHouse x = new RangeHouse();
        int[] without = {-1, 8, 9, 10, 17, Integer.MIN_VALUE, Integer.MAX_VALUE};
        for (int what : without) {
            Check.due("24: status(" + what + ")", x.status(what), NONE);
        }
        x.caller();
        x.call(0, 1, 5, 1, 0);
        x.deliver(0);
        x.split(0, 10);
        x.split(0, 5);
        x.merge(0, 2);
        x.fall(5);
        Check.moveWholly(x, 0, 1);
        x.move(1, 2);
        x.undo(1);
        x.call(1, 0, 0, 0, 0);
        x.call(0, 7, 0, 0, 0);
        x.call(0, 7, 0, 0, 0);
        for (int i = 0; i < 3; i++) {
            x.call(0, 0, -1, 0, 0);
        }
        for (int i = 0; i < 4; i++) {
            x.fall(5);
        }
        for (int i = 0; i < 5; i++) {
            x.merge(1, 1);
        }
        for (int i = 0; i < 11; i++) {
            x.caller();
        }
        int letters = x.status(3);
        int[] want = {2, 3, 6, letters, 1, 5, 1, 1, NONE, NONE, NONE, 1, 2, 3, 4, 5, 6, NONE};
        for (int i = 0; i < want.length; i++) {
            Check.due("24: status(" + i + ")", x.status(i), want[i]);
        }
    }
}
