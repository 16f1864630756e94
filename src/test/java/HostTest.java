/** Promises 15, 16, 19, 20 and 21: fall, rise, at, row, weight. */
public final class HostTest {
    private static final int NONE = Check.NONE;

    public static void main(String[] args) {
        fallAndRise();
        fallForgetsTaking();
        bookStays();
        at();
        row();
        weight();
        Check.end("HostTest");
    }

    private static void fallAndRise() {
        RangeHouse x = new RangeHouse();
        Check.due("15: no HOST", x.fall(-1), -1);
        Check.due("15: no HOST", x.fall(6), -1);
        Check.due("16: no HOST", x.rise(-1), -1);
        Check.due("16: no HOST", x.rise(6), -1);
        for (int host = 0; host < 6; host++) {
            Check.due("16: UP", x.rise(host), -4);
            Check.due("15: fall(" + host + ")", x.fall(host), 0);
            Check.due("15: DOWN", x.fall(host), -4);
            Check.due("24: HOSTS UP", x.status(5), 5 - host);
        }
        for (int host = 0; host < 6; host++) {
            Check.due("16: rise(" + host + ")", x.rise(host), 1);
            Check.due("24: HOSTS UP", x.status(5), 1 + host);
        }
        Check.due("24: status(14)", x.status(14), 12);
        Check.due("24: status(11)", x.status(11), 4);
    }

    private static void fallForgetsTaking() {
        RangeHouse x = new RangeHouse();
        x.caller();
        x.split(0, 100);
        x.split(1, 200);
        x.learn(0);
        Check.done(x, 0, 1, 5, 1, 0);
        Check.done(x, 0, 1, 105, 1, 0);
        for (int r = 0; r < 3; r++) {
            x.move(r, 2);
            x.deliver(Check.last(x));
        }
        Check.due("three BEGINS, three PARTS", x.step(0), 6);
        int parts = x.status(3) - 3;
        for (int i = 0; i < 3; i++) {
            x.deliver(parts + i);
        }
        Check.due("TAKING", x.at(2, 0, 0), 4);
        Check.due("TAKING", x.at(2, 1, 0), 4);
        Check.due("READY", x.at(2, 2, 0), 5);
        Check.due("15: two were TAKING", x.fall(2), 2);
        Check.atIsNothing(x, 2, 0);
        Check.atIsNothing(x, 2, 1);
        Check.due("15: all else stays", x.at(2, 2, 0), 5);
        Check.due("20: row", x.row(2, 0, 5), 0);
        x.rise(2);
        Check.due("15: none is TAKING", x.fall(2), 0);
    }

    private static void bookStays() {
        RangeHouse x = new RangeHouse();
        x.caller();
        Check.done(x, 0, 1, 5, 50, 0);
        x.split(0, 100);
        x.move(0, 3);
        x.deliver(Check.last(x));
        Check.due("15: GIVING stays", x.fall(0), 0);
        Check.rangeIs(x, 0, 0, 100, 2, 0, 3, 0, 0);
        Check.rangeIs(x, 1, 100, 10000, 2, 0, NONE, 0, 1);
        Check.atIs(x, 0, 0, 2, 2, 1, 0, 100, 1, 0, 1, 1);
        Check.due("20: row", x.row(0, 0, 5), 50);
        Check.due("21: weight of one that is DOWN", x.weight(0), 1);
        x.rise(0);
        Check.due("12: it goes on", x.step(0), 2);
    }

    private static void at() {
        RangeHouse x = new RangeHouse();
        Check.due("19: no HOST", x.at(6, 0, 0), NONE);
        Check.due("19: no HOST", x.at(-1, 0, 0), NONE);
        Check.due("19: no number", x.at(0, 1, 0), NONE);
        Check.due("19: no number", x.at(0, -1, 0), NONE);
        Check.due("19: no number", x.at(0, 40, 0), NONE);
        Check.due("19: what 9", x.at(0, 0, 9), NONE);
        Check.due("19: what -1", x.at(0, 0, -1), NONE);
        x.split(0, 10);
        Check.due("19: a new number", x.at(5, 1, 0), 0);
        x.merge(0, 1);
        Check.due("19: one that is no more", x.at(0, 1, 0), 0);
        Check.due("19: no REFUSAL", x.status(11), 0);
    }

    private static void row() {
        RangeHouse x = new RangeHouse();
        x.caller();
        Check.done(x, 0, 1, 0, 7, 0);
        Check.done(x, 0, 1, 9999, -7, 0);
        Check.due("20: row(0, 0, 0)", x.row(0, 0, 0), 7);
        Check.due("20: row(0, 0, 9999)", x.row(0, 0, 9999), -7);
        Check.due("20: row(0, 0, 1)", x.row(0, 0, 1), 0);
        Check.due("20: row(1, 0, 0)", x.row(1, 0, 0), 0);
        Check.due("20: row(0, 1, 0)", x.row(0, 1, 0), 0);
        Check.due("20: row(6, 0, 0)", x.row(6, 0, 0), 0);
        Check.due("20: row(-1, 0, 0)", x.row(-1, 0, 0), 0);
        Check.due("20: row(0, -1, 0)", x.row(0, -1, 0), 0);
        Check.due("20: row(0, 40, 0)", x.row(0, 40, 0), 0);
        Check.due("20: row(0, 0, 10000)", x.row(0, 0, 10000), 0);
        Check.due("20: row(0, 0, -1)", x.row(0, 0, -1), 0);
        Check.due("20: no REFUSAL", x.status(11), 0);
    }

    private static void weight() {
        RangeHouse x = new RangeHouse();
        Check.due("21: no HOST", x.weight(6), -1);
        Check.due("21: no HOST", x.weight(-1), -1);
        Check.due("21: a REFUSAL", x.status(11), 2);
        x.caller();
        x.split(0, 100);
        x.split(1, 200);
        x.learn(0);
        int[] keys = {1, 2, 101, 102, 103, 201};
        for (int key : keys) {
            Check.done(x, 0, 1, key, key, 0);
        }
        Check.due("21: WHOLE", x.weight(0), 6);
        x.move(0, 1);
        x.deliver(Check.last(x));
        Check.due("21: GIVING", x.weight(0), 6);
        int first = x.status(3);
        x.step(0);
        Check.deliverFrom(x, first);
        Check.due("21: not TAKING", x.weight(1), 0);
        first = x.status(3);
        x.step(0);
        x.deliver(Check.last(x));
        Check.due("21: CLOSED", x.at(0, 0, 0), 3);
        Check.due("21: CLOSED", x.weight(0), 6);
        Check.due("21: not READY", x.weight(1), 0);
        Check.deliverFrom(x, first);
        Check.due("21: the giver", x.weight(0), 4);
        Check.due("21: the taker", x.weight(1), 2);
        Check.due("21: another", x.weight(5), 0);
    }
}
