import java.util.ArrayList;
import java.util.Arrays;

/**
 * A store of keys and rows cut into ranges on six hosts. The words in capitals
 * (RANGE, HOST, LETTER ..) are those of the document, which numbers its promises.
 */
public final class RangeHouse {
    public static final int NONE = -9;

    private static final int HOSTS = 6;
    private static final int KEYS = 10000;
    private static final int MOST_RANGES = 40;
    private static final int MOST_ROWS = 60;
    private static final int MOST_KEPT = 4;
    private static final int MOST_CALLERS = 6;
    private static final int MOST_CALLS = 60;
    private static final int MOST_LETTERS = 1200;
    private static final int PART_KEYS = 3;

    private static final int NOBODY = -1;
    private static final int OTHER = -2;
    private static final int BEYOND = -3;
    private static final int DOWN = -4;
    private static final int STATE = -5;
    private static final int ROOM = -6;

    private static final int NOTHING = 0;
    private static final int WHOLE = 1;
    private static final int GIVING = 2;
    private static final int CLOSED = 3;
    private static final int TAKING = 4;
    private static final int READY = 5;

    private static final int READ = 0;
    private static final int WRITE = 1;
    private static final int STRIKE = 2;
    private static final int ADD = 3;
    private static final int SWAP = 4;
    private static final int SIGN_NO_ROOM = 2;

    private static final int CALL = 0;
    private static final int ANSWER = 1;
    private static final int OLD = 2;
    private static final int BEGIN = 3;
    private static final int PART = 4;
    private static final int TOOK = 5;
    private static final int DONE = 6;
    private static final int OPEN = 7;
    private static final int OPENED = 8;
    private static final int GO = 9;
    private static final int GONE = 10;
    private static final int UNDO = 11;
    private static final int UNDONE = 12;
    private static final int DROP = 13;
    private static final int DROPPED = 14;

    private static final int OWED_OPEN = 1;
    private static final int OWED_GO = 2;
    private static final int OWED_UNDO = 4;
    private static final int OWED_DROP = 8;

    /** How many KEYS the END has, by its letter. */
    private static final int END = -1;
    /** The m of a TOOK that asks for a new ATTEMPT. */
    private static final int ANEW = -1;
    /** Below every m: a PART that no TOOK goes back for. */
    private static final int NO_REPLY = -2;

    private final Host[] hosts = new Host[HOSTS];
    private final Page[] pages = new Page[MOST_RANGES];
    private final ArrayList<Caller> callers = new ArrayList<>();
    private final ArrayList<Letter> letters = new ArrayList<>();
    /** The LETTERS whose CALLS were DONE: they bear all that is asked about them. */
    private final ArrayList<Letter> done = new ArrayList<>();
    private final int[] refused = new int[1 - ROOM];
    private int made;
    private int over;
    private int undone;

    public RangeHouse() {
        for (int i = 0; i < HOSTS; i++) {
            hosts[i] = new Host(i);
        }
        pages[0] = new Page(new Spot(0, 0, KEYS, 1, 0));
        made = 1;
        Holding first = new Holding();
        first.beWhole(0, KEYS, 1);
        hosts[0].holdings[0] = first;
    }

    // ---- CALLERS

    public int caller() {
        if (!isUp(0)) {
            return refuse(DOWN);
        }
        if (callers.size() >= MOST_CALLERS) {
            return refuse(ROOM);
        }
        Caller fresh = new Caller(callers.size());
        callers.add(fresh);
        tellBook(fresh);
        return fresh.number;
    }

    public int call(int caller, int kind, int key, long v, long w) {
        Caller who = callerOf(caller);
        if (who == null) {
            return refuse(NOBODY);
        }
        if (kind < READ || kind > SWAP) {
            return refuse(OTHER);
        }
        Spot spot = who.spotOf(key);
        if (spot == null) {
            return refuse(BEYOND);
        }
        if (who.asks.size() >= MOST_CALLS || !hasRoom(1)) {
            return refuse(ROOM);
        }
        Ask ask = new Ask(who.asks.size(), kind, key, v, w);
        who.asks.add(ask);
        postCall(who, ask, spot);
        return ask.count;
    }

    public int again(int caller, int count) {
        Caller who = callerOf(caller);
        Ask ask = who == null ? null : who.askOf(count);
        Spot spot = ask == null ? null : who.spotOf(ask.key);
        if (spot == null) {
            return refuse(NOBODY);
        }
        if (!hasRoom(1)) {
            return refuse(ROOM);
        }
        int number = letters.size();
        postCall(who, ask, spot);
        return number;
    }

    public long answer(int caller, int count, int what) {
        Caller who = callerOf(caller);
        Ask ask = who == null ? null : who.askOf(count);
        if (ask == null) {
            return NONE;
        }
        switch (what) {
            case 0: return ask.answered ? 1 : 0;
            case 1: return ask.value;
            case 2: return ask.answered ? ask.sign : NONE;
            case 3: return ask.key;
            case 4: return ask.kind;
            case 5: return ask.timesSent;
            default: return NONE;
        }
    }

    public int learn(int caller) {
        Caller who = callerOf(caller);
        if (who == null) {
            return refuse(NOBODY);
        }
        if (!isUp(0)) {
            return refuse(DOWN);
        }
        tellBook(who);
        return who.copy.size();
    }

    public int copy(int caller, int key, int what) {
        Caller who = callerOf(caller);
        Spot spot = who == null ? null : who.spotOf(key);
        if (spot == null) {
            return NONE;
        }
        switch (what) {
            case 0: return spot.number;
            case 1: return spot.epoch;
            case 2: return spot.home;
            case 3: return spot.low;
            case 4: return spot.high;
            default: return NONE;
        }
    }

    // ---- THE BOOK

    public int move(int range, int host) {
        Page page = pageOf(range);
        if (page == null || hostOf(host) == null) {
            return refuse(NOBODY);
        }
        if (!isUp(0)) {
            return refuse(DOWN);
        }
        if (!isFree(page) || page.spot.home == host) {
            return refuse(STATE);
        }
        if (!hasRoom(1)) {
            return refuse(ROOM);
        }
        page.startMove(host);
        postBegin(page);
        return page.moveEpoch;
    }

    public int undo(int range) {
        Page page = pageOf(range);
        if (page == null) {
            return refuse(NOBODY);
        }
        if (!isUp(0)) {
            return refuse(DOWN);
        }
        if (!page.underWay) {
            return refuse(STATE);
        }
        if (!hasRoom(2)) {
            return refuse(ROOM);
        }
        page.undoMove();
        undone++;
        postOwed(page);
        return page.spot.epoch;
    }

    public int split(int range, int key) {
        Page page = pageOf(range);
        if (page == null) {
            return refuse(NOBODY);
        }
        Spot spot = page.spot;
        if (key <= spot.low || key >= spot.high) {
            return refuse(BEYOND);
        }
        if (!isUp(0) || !isUp(spot.home)) {
            return refuse(DOWN);
        }
        if (!isFree(page)) {
            return refuse(STATE);
        }
        if (made >= MOST_RANGES) {
            return refuse(ROOM);
        }
        Holding lower = holdingAt(spot.home, range);
        Holding upper = holdingAt(spot.home, made);
        if (lower == null || upper == null) {
            return refuse(STATE);
        }
        int epoch = spot.epoch + 1;
        lower.cutInto(upper, key, epoch);
        page.spot = new Spot(range, spot.low, key, epoch, spot.home);
        pages[made] = new Page(new Spot(made, key, spot.high, epoch, spot.home));
        made++;
        return made - 1;
    }

    public int merge(int a, int b) {
        Page page = pageOf(a);
        Page other = pageOf(b);
        if (page == null || other == null) {
            return refuse(NOBODY);
        }
        Spot first = page.spot;
        Spot second = other.spot;
        if (!isUp(0) || !isUp(first.home) || !isUp(second.home)) {
            return refuse(DOWN);
        }
        Holding kept = holdingAt(first.home, a);
        Holding gone = holdingAt(second.home, b);
        if (!isFree(page) || !isFree(other) || !first.isNeighbour(second)
                || first.home != second.home || kept == null || gone == null
                || kept.rows.size + gone.rows.size > MOST_ROWS) {
            return refuse(STATE);
        }
        int epoch = Math.max(first.epoch, second.epoch) + 1;
        int low = Math.min(first.low, second.low);
        int high = Math.max(first.high, second.high);
        kept.swallow(gone);
        kept.beWhole(low, high, epoch);
        page.spot = new Spot(a, low, high, epoch, first.home);
        pages[b] = null;
        return epoch;
    }

    public int range(int r, int what) {
        Page page = pageOf(r);
        if (page == null) {
            return NONE;
        }
        switch (what) {
            case 0: return page.spot.low;
            case 1: return page.spot.high;
            case 2: return page.spot.epoch;
            case 3: return page.spot.home;
            case 4: return page.underWay ? page.taker : NONE;
            case 5: return page.owed;
            case 6: return isFree(page) ? 1 : 0;
            default: return NONE;
        }
    }

    // ---- HOSTS

    public int step(int host) {
        Host who = hostOf(host);
        if (who == null) {
            return refuse(NOBODY);
        }
        if (!who.up) {
            return refuse(DOWN);
        }
        int due = who.countGiven() + (host == 0 ? countBookLetters() : 0);
        if (!hasRoom(due)) {
            return refuse(ROOM);
        }
        if (host == 0) {
            postBook();
        }
        for (int r = 0; r < made; r++) {
            giveOn(who, r);
        }
        return due;
    }

    public int fall(int host) {
        Host who = hostOf(host);
        if (who == null) {
            return refuse(NOBODY);
        }
        if (!who.up) {
            return refuse(DOWN);
        }
        who.up = false;
        return who.forgetTaken();
    }

    public int rise(int host) {
        Host who = hostOf(host);
        if (who == null) {
            return refuse(NOBODY);
        }
        if (who.up) {
            return refuse(DOWN);
        }
        who.up = true;
        return 1;
    }

    public int at(int host, int r, int what) {
        Host who = hostOf(host);
        if (who == null || r < 0 || r >= made) {
            return NONE;
        }
        Holding held = who.look(r);
        int state = held == null ? NOTHING : held.state;
        if (what == 0) {
            return state;
        }
        if (held == null || state == NOTHING) {
            return NONE;
        }
        boolean moves = held.isGiven() || state == TAKING;
        switch (what) {
            case 1: return held.epoch;
            case 2: return held.rows.size;
            case 3: return held.low;
            case 4: return held.high;
            case 5: return moves ? held.attempt : NONE;
            case 6: return moves ? held.part : NONE;
            case 7: return state == GIVING ? held.toSend.size : NONE;
            case 8: return held.kept.total();
            default: return NONE;
        }
    }

    public long row(int host, int r, int key) {
        Host who = hostOf(host);
        Holding held = who == null ? null : who.look(r);
        return held == null ? 0 : held.rows.valueOf(key);
    }

    public int weight(int host) {
        Host who = hostOf(host);
        return who == null ? refuse(NOBODY) : who.countRows();
    }

    public int plan() {
        int from = 0;
        int to = 0;
        int most = hosts[0].countRows();
        int least = most;
        for (int i = 1; i < HOSTS; i++) {
            int rows = hosts[i].countRows();
            if (rows > most) {
                most = rows;
                from = i;
            }
            if (rows < least) {
                least = rows;
                to = i;
            }
        }
        int best = NONE;
        int bestWeight = most;
        for (int r = 0; r < made; r++) {
            int rows = freeRowsAt(from, r);
            int greater = Math.max(most - rows, least + rows);
            if (rows > 0 && greater < bestWeight) {
                best = 10 * r + to;
                bestWeight = greater;
            }
        }
        return best;
    }

    // ---- LETTERS

    public int deliver(int letter) {
        Letter it = letterOf(letter);
        if (it == null) {
            return refuse(NOBODY);
        }
        if (it.lost) {
            return refuse(STATE);
        }
        // a DONE sends two, so one that is left may be too few
        if (!hasRoom(2)) {
            return refuse(ROOM);
        }
        it.timesDelivered++;
        if (it.kind == ANSWER || it.kind == OLD) {
            hearBack(it);
            return 1;
        }
        Host host = hostOf(it.to);
        if (host == null || !host.up) {
            return 0;
        }
        if (it.kind == CALL) {
            takeCall(host, it);
        } else {
            takeMoveLetter(host, it);
        }
        return 1;
    }

    public int lose(int letter) {
        Letter it = letterOf(letter);
        if (it == null) {
            return refuse(NOBODY);
        }
        if (it.lost) {
            return refuse(STATE);
        }
        it.lost = true;
        return 1;
    }

    public int letter(int l, int what) {
        Letter it = letterOf(l);
        if (it == null) {
            return NONE;
        }
        switch (what) {
            case 0: return it.kind;
            case 1: return it.to;
            case 2: return it.from;
            case 3: return it.range;
            case 4: return it.epoch;
            case 5: return it.lost ? 1 : 0;
            case 6: return it.timesDelivered;
            case 7: return it.count;
            case 8: return it.attempt;
            case 9: return it.part;
            case 10: return it.parcel == null ? NONE : it.parcel.size;
            default: return NONE;
        }
    }

    // ---- what was

    public int order(int i, int what) {
        if (i < 0 || i >= done.size()) {
            return NONE;
        }
        Letter it = done.get(i);
        switch (what) {
            case 0: return it.from;
            case 1: return it.count;
            case 2: return it.to;
            case 3: return it.range;
            case 4: return it.epoch;
            default: return NONE;
        }
    }

    public int status(int what) {
        if (what >= 11 && what <= 16) {
            return refused[what - 10];
        }
        switch (what) {
            case 0: return countPages();
            case 1: return made;
            case 2: return callers.size();
            case 3: return letters.size();
            case 4: return done.size();
            case 5: return countUp();
            case 6: return over;
            case 7: return undone;
            default: return NONE;
        }
    }

    // ---- looking up: null for what there is not

    private Host hostOf(int number) {
        return number < 0 || number >= HOSTS ? null : hosts[number];
    }

    private Page pageOf(int number) {
        return number < 0 || number >= MOST_RANGES ? null : pages[number];
    }

    private Caller callerOf(int number) {
        return number < 0 || number >= callers.size() ? null : callers.get(number);
    }

    private Letter letterOf(int number) {
        return number < 0 || number >= letters.size() ? null : letters.get(number);
    }

    private Holding holdingAt(int host, int range) {
        Host who = hostOf(host);
        return who == null ? null : who.hold(range);
    }

    private boolean isUp(int host) {
        Host who = hostOf(host);
        return who != null && who.up;
    }

    private boolean isFree(Page page) {
        if (page.underWay || page.owed != 0) {
            return false;
        }
        Host home = hostOf(page.spot.home);
        Holding held = home == null ? null : home.look(page.spot.number);
        return held != null && held.state == WHOLE;
    }

    private boolean hasRoom(int more) {
        return letters.size() + more <= MOST_LETTERS;
    }

    private int refuse(int number) {
        if (number <= NOBODY && number >= ROOM) {
            refused[-number]++;
        }
        return number;
    }

    private int countPages() {
        int count = 0;
        for (int r = 0; r < made; r++) {
            if (pages[r] != null) {
                count++;
            }
        }
        return count;
    }

    private int countUp() {
        int count = 0;
        for (int i = 0; i < HOSTS; i++) {
            if (hosts[i].up) {
                count++;
            }
        }
        return count;
    }

    /** The ROWS of a RANGE that is FREE and has that HOME; 0 of any other. */
    private int freeRowsAt(int host, int range) {
        Page page = pageOf(range);
        if (page == null || page.spot.home != host || !isFree(page)) {
            return 0;
        }
        Holding held = holdingAt(host, range);
        return held == null ? 0 : held.rows.size;
    }

    private void tellBook(Caller who) {
        who.copy.clear();
        for (int r = 0; r < made; r++) {
            Page page = pages[r];
            if (page != null) {
                who.copy.add(page.spot);
            }
        }
    }

    // ---- sending

    private Letter post(int kind, int from, int to, int range, int epoch) {
        Letter fresh = new Letter(kind, from, to, range, epoch);
        if (hasRoom(1)) {
            letters.add(fresh);
        }
        return fresh;
    }

    private void postCall(Caller who, Ask ask, Spot spot) {
        Letter fresh = post(CALL, who.number, spot.home, spot.number, spot.epoch);
        fresh.count = ask.count;
        fresh.ask = ask;
        ask.timesSent++;
    }

    private void postBegin(Page page) {
        Letter fresh = post(BEGIN, 0, page.giver, page.spot.number, page.moveEpoch);
        fresh.taker = page.taker;
    }

    private void postOwed(Page page) {
        postIfOwed(page, OWED_OPEN, OPEN, page.taker);
        postIfOwed(page, OWED_GO, GO, page.giver);
        postIfOwed(page, OWED_UNDO, UNDO, page.giver);
        postIfOwed(page, OWED_DROP, DROP, page.taker);
    }

    private void postIfOwed(Page page, int bit, int kind, int to) {
        if ((page.owed & bit) != 0) {
            post(kind, 0, to, page.spot.number, page.moveEpoch);
        }
    }

    private int countBookLetters() {
        int count = 0;
        for (int r = 0; r < made; r++) {
            Page page = pages[r];
            if (page != null) {
                count += Integer.bitCount(page.owed) + (page.underWay ? 1 : 0);
            }
        }
        return count;
    }

    private void postBook() {
        for (int r = 0; r < made; r++) {
            Page page = pages[r];
            if (page == null) {
                continue;
            }
            if (page.underWay) {
                postBegin(page);
            }
            postOwed(page);
        }
    }

    private void giveOn(Host host, int range) {
        Holding held = host.look(range);
        if (held == null || !held.isGiven()) {
            return;
        }
        if (held.endTook) {
            post(DONE, host.number, 0, range, held.moveEpoch());
            return;
        }
        if (held.sent == null) {
            held.packNext();
        }
        Letter fresh = post(PART, host.number, held.taker, range, held.moveEpoch());
        fresh.attempt = held.attempt;
        fresh.part = held.part;
        fresh.parcel = held.sent;
    }

    // ---- what LETTERS do

    private void hearBack(Letter it) {
        Caller who = callerOf(it.to);
        if (who == null) {
            return;
        }
        if (it.kind == OLD) {
            if (it.told != null) {
                who.correct(it.told);
            }
            return;
        }
        Ask ask = who.askOf(it.count);
        if (ask != null) {
            ask.hear(it.value, it.sign);
        }
    }

    private void takeCall(Host host, Letter it) {
        Ask ask = it.ask;
        if (ask == null) {
            return;
        }
        Holding held = host.look(it.range);
        if (held != null && held.isServing() && held.epoch == it.epoch) {
            serve(held, it, ask);
            return;
        }
        Spot known = host.known(ask.key);
        Letter old = post(OLD, host.number, it.from, NONE, NONE);
        old.count = it.count;
        if (known != null) {
            old.range = known.number;
            old.epoch = known.epoch;
            old.told = known;
        }
    }

    private void serve(Holding held, Letter it, Ask ask) {
        if (held.kept.find(it.from, it.count) < 0) {
            if (held.kept.isBelowAll(it.from, it.count)) {
                return;
            }
            held.perform(it.from, ask);
            done.add(it);
        }
        int place = held.kept.find(it.from, it.count);
        if (place < 0) {
            return;
        }
        Letter back = post(ANSWER, it.to, it.from, NONE, NONE);
        back.count = it.count;
        back.value = held.kept.values[place];
        back.sign = held.kept.signs[place];
    }

    private void takeMoveLetter(Host host, Letter it) {
        switch (it.kind) {
            case BEGIN: takeBegin(host, it); break;
            case PART: takePart(host, it); break;
            case TOOK: hearTook(host, it); break;
            case DONE: hearDone(it); break;
            case OPEN: takeOpen(host, it); break;
            case OPENED: settle(it, OWED_OPEN); break;
            case GO: takeGo(host, it); break;
            case GONE: settle(it, OWED_GO); break;
            case UNDO: takeUndo(host, it); break;
            case UNDONE: settle(it, OWED_UNDO); break;
            case DROP: takeDrop(host, it); break;
            case DROPPED: settle(it, OWED_DROP); break;
            default: break;
        }
    }

    private void takeBegin(Host host, Letter it) {
        Holding held = host.look(it.range);
        if (held != null && held.state == WHOLE && held.moveEpoch() == it.epoch) {
            held.taker = it.taker;
            held.startAttempt(1);
        }
    }

    private void takePart(Host host, Letter it) {
        Holding held = host.hold(it.range);
        if (held == null || it.parcel == null) {
            return;
        }
        int reply = held.receive(it, it.parcel);
        if (reply == NO_REPLY) {
            return;
        }
        Letter back = post(TOOK, host.number, it.from, it.range, it.epoch);
        back.attempt = it.attempt;
        back.part = reply;
    }

    private void hearTook(Host host, Letter it) {
        Holding held = host.look(it.range);
        if (held == null || !held.isGiven() || held.moveEpoch() != it.epoch
                || held.attempt != it.attempt || held.endTook) {
            return;
        }
        if (it.part == ANEW) {
            held.startAttempt(held.attempt + 1);
            return;
        }
        if (held.sent == null || held.part != it.part) {
            return;
        }
        held.endTook = held.sent.size == END;
        held.sent = null;
        held.part++;
        if (held.endTook) {
            post(DONE, host.number, 0, it.range, it.epoch);
        }
    }

    private void hearDone(Letter it) {
        Page page = pageOf(it.range);
        if (page != null && page.underWay && page.moveEpoch == it.epoch) {
            page.endMove();
            over++;
            postOwed(page);
        }
    }

    private void takeOpen(Host host, Letter it) {
        Holding held = host.look(it.range);
        if (held == null) {
            return;
        }
        if (held.state == READY && held.epoch == it.epoch) {
            held.state = WHOLE;
        }
        if (held.isHome() && held.epoch == it.epoch) {
            reply(OPENED, it);
        }
    }

    private void takeGo(Host host, Letter it) {
        Holding held = host.look(it.range);
        if (held != null && held.state == CLOSED && held.moveEpoch() == it.epoch) {
            host.gave.add(new Spot(it.range, held.low, held.high, it.epoch, held.taker));
            held.beNothing();
        }
        reply(GONE, it);
    }

    private void takeUndo(Host host, Letter it) {
        Holding held = host.look(it.range);
        if (held == null || !held.isHome()) {
            return;
        }
        int next = it.epoch + 1;
        if (held.moveEpoch() == it.epoch) {
            held.beWhole(held.low, held.high, next);
        }
        if (held.epoch >= next) {
            reply(UNDONE, it);
        }
    }

    private void takeDrop(Host host, Letter it) {
        Holding held = host.look(it.range);
        if (held != null && held.isTaken() && held.epoch == it.epoch) {
            held.beNothing();
        }
        reply(DROPPED, it);
    }

    private void reply(int kind, Letter it) {
        post(kind, it.to, it.from, it.range, it.epoch);
    }

    private void settle(Letter it, int bit) {
        Page page = pageOf(it.range);
        if (page != null && page.moveEpoch == it.epoch) {
            page.owed &= ~bit;
        }
    }

    /** What THE BOOK, a COPY or an OLD tells of a RANGE; shared, so never changed. */
    private static final class Spot {
        final int number;
        final int low;
        final int high;
        final int epoch;
        final int home;

        Spot(int number, int low, int high, int epoch, int home) {
            this.number = number;
            this.low = low;
            this.high = high;
            this.epoch = epoch;
            this.home = home;
        }

        boolean has(int key) {
            return key >= low && key < high;
        }

        boolean shares(Spot other) {
            return low < other.high && other.low < high;
        }

        boolean isNeighbour(Spot other) {
            return high == other.low || other.high == low;
        }

        Spot within(int from, int to) {
            return new Spot(number, from, to, epoch, home);
        }
    }

    /** THE BOOK's page of a RANGE, with its latest MOVE. */
    private static final class Page {
        Spot spot;
        int giver;
        int taker;
        /** Stays when the MOVE ends: what is owed is owed for it. */
        int moveEpoch;
        boolean underWay;
        int owed;

        Page(Spot spot) {
            this.spot = spot;
        }

        void startMove(int host) {
            giver = spot.home;
            taker = host;
            moveEpoch = spot.epoch + 1;
            underWay = true;
        }

        void endMove() {
            spot = new Spot(spot.number, spot.low, spot.high, moveEpoch, taker);
            underWay = false;
            owed = OWED_OPEN | OWED_GO;
        }

        void undoMove() {
            spot = new Spot(spot.number, spot.low, spot.high, moveEpoch + 1, giver);
            underWay = false;
            owed = OWED_UNDO | OWED_DROP;
        }
    }

    /** A HOST with what it has of each RANGE; a place that is null was always NOTHING. */
    private static final class Host {
        final int number;
        boolean up = true;
        final Holding[] holdings = new Holding[MOST_RANGES];
        /** All that it GAVE: an earlier SPAN may have a KEY that later ones lack. */
        final ArrayList<Spot> gave = new ArrayList<>();

        Host(int number) {
            this.number = number;
        }

        Holding look(int range) {
            return range < 0 || range >= MOST_RANGES ? null : holdings[range];
        }

        Holding hold(int range) {
            if (range < 0 || range >= MOST_RANGES) {
                return null;
            }
            if (holdings[range] == null) {
                holdings[range] = new Holding();
            }
            return holdings[range];
        }

        Spot known(int key) {
            for (int r = 0; r < MOST_RANGES; r++) {
                Holding held = holdings[r];
                if (held != null && held.isServing() && key >= held.low && key < held.high) {
                    return new Spot(r, held.low, held.high, held.epoch, number);
                }
            }
            for (int i = gave.size() - 1; i >= 0; i--) {
                Spot spot = gave.get(i);
                if (spot.has(key)) {
                    return spot;
                }
            }
            return null;
        }

        int countRows() {
            int count = 0;
            for (int r = 0; r < MOST_RANGES; r++) {
                Holding held = holdings[r];
                if (held != null && held.isHome()) {
                    count += held.rows.size;
                }
            }
            return count;
        }

        int countGiven() {
            int count = 0;
            for (int r = 0; r < MOST_RANGES; r++) {
                Holding held = holdings[r];
                if (held != null && held.isGiven()) {
                    count++;
                }
            }
            return count;
        }

        int forgetTaken() {
            int count = 0;
            for (int r = 0; r < MOST_RANGES; r++) {
                Holding held = holdings[r];
                if (held != null && held.state == TAKING) {
                    held.beNothing();
                    count++;
                }
            }
            return count;
        }
    }

    /** A RANGE at a HOST. */
    private static final class Holding {
        int state = NOTHING;
        int low;
        int high;
        int epoch;
        final Rows rows = new Rows();
        final Kept kept = new Kept();
        /** The E and ATTEMPT of PAST; no E is below 2, so 0 stands for none. */
        int pastEpoch;
        int pastAttempt;
        int taker;
        int attempt;
        int part;
        /** The PART that was sent last, till it is TOOK. */
        Parcel sent;
        boolean endTook;
        final KeySet toSend = new KeySet();

        boolean isServing() {
            return state == WHOLE || state == GIVING;
        }

        boolean isGiven() {
            return state == GIVING || state == CLOSED;
        }

        boolean isHome() {
            return state == WHOLE || isGiven();
        }

        boolean isTaken() {
            return state == TAKING || state == READY;
        }

        /** The E of a MOVE away from here: the only one that this EPOCH can have. */
        int moveEpoch() {
            return epoch + 1;
        }

        void beNothing() {
            state = NOTHING;
            rows.size = 0;
            kept.forget();
            endGiving();
        }

        void beWhole(int from, int to, int next) {
            state = WHOLE;
            low = from;
            high = to;
            epoch = next;
            endGiving();
        }

        private void endGiving() {
            sent = null;
            endTook = false;
            toSend.size = 0;
        }

        void cutInto(Holding upper, int key, int next) {
            upper.beWhole(key, high, next);
            beWhole(low, key, next);
            upper.rows.size = 0;
            rows.handOver(upper.rows, key);
            upper.kept.become(kept);
        }

        void swallow(Holding other) {
            for (int i = 0; i < other.rows.size; i++) {
                rows.put(other.rows.keys[i], other.rows.values[i]);
            }
            kept.join(other.kept);
            other.beNothing();
        }

        void perform(int caller, Ask ask) {
            boolean there = rows.find(ask.key) >= 0;
            long value = rows.valueOf(ask.key);
            int sign = there ? 1 : 0;
            boolean changed = false;
            if (ask.kind == WRITE || ask.kind == ADD) {
                long next = ask.kind == ADD ? value + ask.v : ask.v;
                changed = rows.put(ask.key, next);
                if (!changed) {
                    sign = SIGN_NO_ROOM;
                } else if (ask.kind == ADD) {
                    value = next;
                }
            } else if (ask.kind == STRIKE) {
                changed = rows.drop(ask.key);
            } else if (ask.kind == SWAP) {
                changed = there && value == ask.v && rows.put(ask.key, ask.w);
                sign = changed ? 1 : 0;
            }
            if (changed && state == GIVING) {
                toSend.add(ask.key);
            }
            kept.keep(caller, ask.count, value, sign);
        }

        void startAttempt(int number) {
            endGiving();
            state = GIVING;
            attempt = number;
            part = 0;
            for (int i = 0; i < rows.size; i++) {
                toSend.add(rows.keys[i]);
            }
        }

        /** Those without a ROW go first: so the taker never has more ROWS than there is room for. */
        void packNext() {
            sent = new Parcel(low, high);
            pack(false);
            pack(true);
            if (sent.size == 0) {
                state = CLOSED;
                sent.size = END;
                sent.kept = new Kept();
                sent.kept.become(kept);
                return;
            }
            for (int i = 0; i < sent.size; i++) {
                toSend.drop(sent.keys[i]);
            }
        }

        private void pack(boolean withRow) {
            for (int i = 0; i < toSend.size; i++) {
                int key = toSend.keys[i];
                if (rows.find(key) >= 0 == withRow) {
                    sent.put(key, withRow, rows.valueOf(key));
                }
            }
        }

        /** Answers the m of the TOOK that goes back, or NO_REPLY. */
        int receive(Letter it, Parcel parcel) {
            if (startsAnew(it)) {
                startTaking(it, parcel);
                take(parcel);
                return it.part;
            }
            if (state == TAKING && epoch == it.epoch && attempt == it.attempt) {
                if (it.part == part) {
                    take(parcel);
                    return it.part;
                }
                return it.part < part ? it.part : NO_REPLY;
            }
            if (state == READY && epoch == it.epoch) {
                return it.part;
            }
            return state == NOTHING ? ANEW : NO_REPLY;
        }

        private boolean startsAnew(Letter it) {
            boolean later = it.epoch > pastEpoch
                    || it.epoch == pastEpoch && it.attempt > pastAttempt;
            return !isHome() && it.part == 0 && later;
        }

        private void startTaking(Letter it, Parcel parcel) {
            beNothing();
            state = TAKING;
            low = parcel.low;
            high = parcel.high;
            epoch = it.epoch;
            attempt = it.attempt;
            part = 0;
            pastEpoch = it.epoch;
            pastAttempt = it.attempt;
        }

        private void take(Parcel parcel) {
            for (int i = 0; i < parcel.size; i++) {
                if (parcel.there[i]) {
                    rows.put(parcel.keys[i], parcel.values[i]);
                } else {
                    rows.drop(parcel.keys[i]);
                }
            }
            part++;
            if (parcel.size == END && parcel.kept != null) {
                kept.become(parcel.kept);
                state = READY;
            }
        }
    }

    /** ROWS, the least KEY first. */
    private static final class Rows {
        int size;
        final int[] keys = new int[MOST_ROWS];
        final long[] values = new long[MOST_ROWS];

        int find(int key) {
            for (int i = 0; i < size; i++) {
                if (keys[i] == key) {
                    return i;
                }
            }
            return -1;
        }

        long valueOf(int key) {
            int place = find(key);
            return place < 0 ? 0 : values[place];
        }

        /** False, and nothing done, if it would be a new ROW without room. */
        boolean put(int key, long value) {
            int place = find(key);
            if (place >= 0) {
                values[place] = value;
                return true;
            }
            if (size >= MOST_ROWS) {
                return false;
            }
            place = size;
            for (; place > 0 && keys[place - 1] > key; place--) {
                keys[place] = keys[place - 1];
                values[place] = values[place - 1];
            }
            keys[place] = key;
            values[place] = value;
            size++;
            return true;
        }

        boolean drop(int key) {
            int place = find(key);
            if (place < 0) {
                return false;
            }
            for (int i = place + 1; i < size; i++) {
                keys[i - 1] = keys[i];
                values[i - 1] = values[i];
            }
            size--;
            return true;
        }

        void handOver(Rows upper, int from) {
            int stay = 0;
            for (int i = 0; i < size; i++) {
                if (keys[i] >= from) {
                    upper.put(keys[i], values[i]);
                } else {
                    stay++;
                }
            }
            size = stay;
        }
    }

    /** KEPT ANSWERS: each CALLER has MOST_KEPT places, the least count first. */
    private static final class Kept {
        final int[] sizes = new int[MOST_CALLERS];
        final int[] counts = new int[MOST_CALLERS * MOST_KEPT];
        final long[] values = new long[MOST_CALLERS * MOST_KEPT];
        final int[] signs = new int[MOST_CALLERS * MOST_KEPT];

        private boolean isCaller(int caller) {
            return caller >= 0 && caller < MOST_CALLERS;
        }

        int find(int caller, int count) {
            if (!isCaller(caller)) {
                return -1;
            }
            int base = caller * MOST_KEPT;
            for (int i = base; i < base + sizes[caller]; i++) {
                if (counts[i] == count) {
                    return i;
                }
            }
            return -1;
        }

        boolean isBelowAll(int caller, int count) {
            return isCaller(caller) && sizes[caller] == MOST_KEPT
                    && count < counts[caller * MOST_KEPT];
        }

        void keep(int caller, int count, long value, int sign) {
            if (!isCaller(caller) || find(caller, count) >= 0 || isBelowAll(caller, count)) {
                return;
            }
            int base = caller * MOST_KEPT;
            if (sizes[caller] == MOST_KEPT) {
                for (int i = base + 1; i < base + MOST_KEPT; i++) {
                    shift(i, i - 1);
                }
                sizes[caller]--;
            }
            int place = base + sizes[caller];
            for (; place > base && counts[place - 1] > count; place--) {
                shift(place - 1, place);
            }
            counts[place] = count;
            values[place] = value;
            signs[place] = sign;
            sizes[caller]++;
        }

        private void shift(int from, int to) {
            counts[to] = counts[from];
            values[to] = values[from];
            signs[to] = signs[from];
        }

        void join(Kept other) {
            for (int c = 0; c < MOST_CALLERS; c++) {
                int base = c * MOST_KEPT;
                for (int i = base; i < base + other.sizes[c]; i++) {
                    keep(c, other.counts[i], other.values[i], other.signs[i]);
                }
            }
        }

        void become(Kept other) {
            System.arraycopy(other.sizes, 0, sizes, 0, sizes.length);
            System.arraycopy(other.counts, 0, counts, 0, counts.length);
            System.arraycopy(other.values, 0, values, 0, values.length);
            System.arraycopy(other.signs, 0, signs, 0, signs.length);
        }

        void forget() {
            Arrays.fill(sizes, 0);
        }

        int total() {
            int sum = 0;
            for (int c = 0; c < MOST_CALLERS; c++) {
                sum += sizes[c];
            }
            return sum;
        }
    }

    /** KEYS, the least first; it grows, as KEYS that were struck are to be sent too. */
    private static final class KeySet {
        int size;
        int[] keys = new int[8];

        void add(int key) {
            int place = size;
            for (int i = size - 1; i >= 0; i--) {
                if (keys[i] == key) {
                    return;
                }
                if (keys[i] > key) {
                    place = i;
                }
            }
            if (size == keys.length) {
                keys = Arrays.copyOf(keys, 2 * size);
            }
            for (int i = size; i > place; i--) {
                keys[i] = keys[i - 1];
            }
            keys[place] = key;
            size++;
        }

        void drop(int key) {
            int stay = 0;
            for (int i = 0; i < size; i++) {
                if (keys[i] != key) {
                    keys[stay] = keys[i];
                    stay++;
                }
            }
            size = stay;
        }
    }

    /** What a PART bears; sent again it is shared, so never changed once it is sent. */
    private static final class Parcel {
        final int low;
        final int high;
        int size;
        final int[] keys = new int[PART_KEYS];
        final boolean[] there = new boolean[PART_KEYS];
        final long[] values = new long[PART_KEYS];
        /** Of the END alone. */
        Kept kept;

        Parcel(int low, int high) {
            this.low = low;
            this.high = high;
        }

        void put(int key, boolean withRow, long value) {
            if (size >= 0 && size < PART_KEYS) {
                keys[size] = key;
                there[size] = withRow;
                values[size] = value;
                size++;
            }
        }
    }

    /** A LETTER; NONE stands for what its KIND has not. */
    private static final class Letter {
        final int kind;
        final int from;
        final int to;
        int range;
        int epoch;
        int count = NONE;
        int attempt = NONE;
        int part = NONE;
        int taker = NONE;
        long value;
        int sign;
        Ask ask;
        Spot told;
        Parcel parcel;
        boolean lost;
        int timesDelivered;

        Letter(int kind, int from, int to, int range, int epoch) {
            this.kind = kind;
            this.from = from;
            this.to = to;
            this.range = range;
            this.epoch = epoch;
        }
    }

    /** A CALL of a CALLER. */
    private static final class Ask {
        final int count;
        final int kind;
        final int key;
        final long v;
        final long w;
        boolean answered;
        long value;
        int sign;
        int timesSent;

        Ask(int count, int kind, int key, long v, long w) {
            this.count = count;
            this.kind = kind;
            this.key = key;
            this.v = v;
            this.w = w;
        }

        void hear(long told, int toldSign) {
            if (!answered) {
                answered = true;
                value = told;
                sign = toldSign;
            }
        }
    }

    /** A CALLER with its COPY; the SPANS of a COPY are all KEYS, once. */
    private static final class Caller {
        final int number;
        final ArrayList<Spot> copy = new ArrayList<>();
        final ArrayList<Ask> asks = new ArrayList<>();

        Caller(int number) {
            this.number = number;
        }

        Ask askOf(int count) {
            return count < 0 || count >= asks.size() ? null : asks.get(count);
        }

        Spot spotOf(int key) {
            for (int i = 0; i < copy.size(); i++) {
                Spot spot = copy.get(i);
                if (spot.has(key)) {
                    return spot;
                }
            }
            return null;
        }

        void correct(Spot told) {
            for (int i = 0; i < copy.size(); i++) {
                Spot spot = copy.get(i);
                if (spot.shares(told) && spot.epoch >= told.epoch) {
                    return;
                }
            }
            for (int i = copy.size() - 1; i >= 0; i--) {
                Spot spot = copy.get(i);
                if (spot.shares(told)) {
                    copy.remove(i);
                    keepRest(spot, told);
                }
            }
            copy.add(told);
        }

        /** What is left is added behind, where the loop that calls this has been. */
        private void keepRest(Spot spot, Spot told) {
            if (spot.low < told.low) {
                copy.add(spot.within(spot.low, told.low));
            }
            if (spot.high > told.high) {
                copy.add(spot.within(told.high, spot.high));
            }
        }
    }
}
