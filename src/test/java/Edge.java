import java.util.ArrayList;
import java.util.List;

/**
 * What the tests of edges share: calls that must change nothing. A house is made anew
 * for every few questions, so that none is used for more than 512 calls.
 */
final class Edge {
    private static final int AT_ONCE = 150;
    private static final int[] KEYS = {0, 1, 2, 3, 4, 5, 50, 99, 100, 101, 9998, 9999};

    interface House {
        RangeHouse make();
    }

    interface Call {
        long on(RangeHouse x);
    }

    /** A call with one number in question. */
    interface CallOf {
        long on(RangeHouse x, int number);
    }

    private static final class Question {
        final String name;
        final Call call;

        Question(String name, Call call) {
            this.name = name;
            this.call = call;
        }
    }

    private Edge() {
    }

    /** The call answers the REFUSAL; that is counted once, and nothing else is changed. */
    static void refused(String name, House house, Call call, int refusal) {
        Check.test(name, () -> {
            Check.due("the call", call.on(house.make()), refusal);
            refusalsGrow(house, call, 10 - refusal);
            sameBehind(house, call, "");
        });
    }

    /** The same for each number, and for the least and the greatest that there are. */
    static void refusedOf(String name, House house, CallOf call, int refusal, int... numbers) {
        for (int number : withExtremes(numbers)) {
            refused(name + " " + number, house, x -> call.on(x, number), refusal);
        }
    }

    /** A question: it answers that, and nothing is changed, nor is a REFUSAL counted. */
    static void asked(String name, House house, Call call, long answer) {
        Check.test(name, () -> {
            Check.due("the call", call.on(house.make()), answer);
            refusalsGrow(house, call, 0);
            sameBehind(house, call, "");
        });
    }

    static void askedOf(String name, House house, CallOf call, long answer, int... numbers) {
        for (int number : withExtremes(numbers)) {
            asked(name + " " + number, house, x -> call.on(x, number), answer);
        }
    }

    /** A LETTER of the KIND with which the name begins does nothing: that it was delivered is all that changes. */
    static void doesNothing(String name, House house, int letter, int answer) {
        int kind = Integer.parseInt(name.substring(0, name.indexOf(' ')));
        Check.test(name, () -> {
            RangeHouse x = house.make();
            Check.due("letter(" + letter + ", 0)", x.letter(letter, 0), kind);
            int before = x.letter(letter, 6);
            Check.due("deliver(" + letter + ")", x.deliver(letter), answer);
            Check.due("letter(" + letter + ", 6)", x.letter(letter, 6), before + 1);
            refusalsGrow(house, y -> y.deliver(letter), 0);
            sameBehind(house, y -> y.deliver(letter), "letter(" + letter + ", 6)");
        });
    }

    private static int[] withExtremes(int... numbers) {
        int[] all = new int[numbers.length + 2];
        System.arraycopy(numbers, 0, all, 0, numbers.length);
        all[numbers.length] = Integer.MIN_VALUE;
        all[numbers.length + 1] = Integer.MAX_VALUE;
        return all;
    }

    private static void refusalsGrow(House house, Call call, int grown) {
        for (int what = 11; what <= 16; what++) {
            RangeHouse x = house.make();
            int before = x.status(what);
            call.on(x);
            Check.due("status(" + what + ")", x.status(what), what == grown ? before + 1 : before);
        }
    }

    private static void sameBehind(House house, Call call, String except) {
        List<Question> all = questions(house.make());
        for (int from = 0; from < all.size(); from += AT_ONCE) {
            RangeHouse without = house.make();
            RangeHouse with = house.make();
            call.on(with);
            for (Question q : all.subList(from, Math.min(from + AT_ONCE, all.size()))) {
                if (!q.name.equals(except)) {
                    Check.due(q.name, q.call.on(with), q.call.on(without));
                }
            }
        }
    }

    /** All that can be asked of a house with so much in it as this one. */
    private static List<Question> questions(RangeHouse x) {
        List<Question> all = new ArrayList<>();
        for (int what = 0; what < 8; what++) {
            int w = what;
            all.add(new Question("status(" + w + ")", y -> y.status(w)));
        }
        all.add(new Question("plan()", y -> y.plan()));
        int ranges = x.status(1);
        for (int i = 0; i <= ranges; i++) {
            int r = i;
            add(all, "range(" + r, 7, (y, w) -> y.range(r, w));
        }
        int letters = x.status(3);
        for (int i = 0; i < letters; i++) {
            int l = i;
            add(all, "letter(" + l, 11, (y, w) -> y.letter(l, w));
        }
        int done = x.status(4);
        for (int i = 0; i <= done; i++) {
            int d = i;
            add(all, "order(" + d, 5, (y, w) -> y.order(d, w));
        }
        for (int host = 0; host < 6; host++) {
            addHost(all, host, ranges);
        }
        int callers = x.status(2);
        for (int caller = 0; caller < callers; caller++) {
            addCaller(all, caller, x);
        }
        return all;
    }

    private static void addHost(List<Question> all, int host, int ranges) {
        all.add(new Question("weight(" + host + ")", y -> y.weight(host)));
        for (int i = 0; i < ranges; i++) {
            int r = i;
            add(all, "at(" + host + ", " + r, 9, (y, w) -> y.at(host, r, w));
            for (int key : KEYS) {
                all.add(new Question("row(" + host + ", " + r + ", " + key + ")", y -> y.row(host, r, key)));
            }
        }
    }

    private static void addCaller(List<Question> all, int caller, RangeHouse x) {
        for (int key : KEYS) {
            add(all, "copy(" + caller + ", " + key, 5, (y, w) -> y.copy(caller, key, w));
        }
        for (int i = 0; x.answer(caller, i, 0) != Check.NONE; i++) {
            int count = i;
            add(all, "answer(" + caller + ", " + count, 6, (y, w) -> y.answer(caller, count, w));
        }
    }

    private static void add(List<Question> all, String name, int whats, CallOf call) {
        for (int what = 0; what < whats; what++) {
            int w = what;
            all.add(new Question(name + ", " + w + ")", y -> call.on(y, w)));
        }
    }
}
