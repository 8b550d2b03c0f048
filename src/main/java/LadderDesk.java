import java.util.Arrays;

/** Switches that let new ways out by steps, budgets of faults and trials; the promises are in DOC.md. */
public final class LadderDesk {
    public static final int NONE = -1;
    public static final int MISSING = -2;
    public static final int BEYOND = -3;
    public static final int BELOW = -4;
    public static final int KIND = -5;
    public static final int COPY = -6;
    public static final int RING = -7;
    public static final int UNTOLD = -8;
    public static final int FEW = -9;
    public static final int OVER = -10;
    public static final int WAITING = -11;
    public static final int NO = -12;
    public static final int FULL = -13;

    private static final int PLACES = 16;
    private static final int LAST_NUMBER = 999999;
    private static final int LAST_LAND = 15;
    private static final int LAST_AGE = 4000;
    private static final int LAST_SORT = 7;
    private static final int MARKS = 3;
    private static final int WAYS = 8;
    private static final int GROWING_WAY = 1;
    private static final int SEATS = 10000;
    private static final int MOST_RULES = 6;
    private static final int MOST_STEPS = 20;
    private static final int COUNTED_WAYS = 4;
    private static final int MINUTES = 240;
    private static final int MOST_COUNTED = 1000000;
    private static final int WHOLE = 10000;
    private static final int MOST_WINDOW = 60;
    private static final int MOST_WAIT = 100;
    private static final int MOST_WRONGED = 5000;
    private static final int MOST_LOOKS = 20;
    private static final int MOST_TRIED = 30;
    private static final int MOST_ASKED = 2000;

    private static final int STOP_KIND = 4;
    private static final int NOTE_KIND = 5;

    // Sets of KINDS: bit k is there if a call takes a SWITCH of KIND k.
    private static final int ANY = 0b11111;
    private static final int STEPPED = 0b00110;
    private static final int TRIALS = 0b00100;
    private static final int HANGING = 0b11000;
    private static final int STOPS = 0b10000;

    private static final int BY_SEAT = 0;
    private static final int BY_HANGING = 7;
    private static final int BY_STOP = 8;

    private final Shelf shelf;
    private final Shelf kept;
    private boolean hasKept;
    private final Callers callers;
    private final Rings rings;
    private final int[] refused;

    public LadderDesk() {
        shelf = new Shelf();
        kept = new Shelf();
        hasKept = false;
        callers = new Callers();
        rings = new Rings();
        refused = new int[1 - FULL];
    }

    // ---- callers

    public int caller(int number, int land, int age, int sort) {
        if (!within(number, LAST_NUMBER) || !within(land, LAST_LAND)
                || !within(age, LAST_AGE) || !within(sort, LAST_SORT)) {
            return refuse(BEYOND);
        }
        callers.become(number, land, age, sort);
        return 1;
    }

    public int seat(int place) {
        Switch s = shelf.find(place, ANY);
        if (s == null) {
            return refuseAt(place, ANY);
        }
        return s.seatOf(callers.number);
    }

    public int way(int place) {
        if (shelf.find(place, ANY) == null) {
            return refuseAt(place, ANY);
        }
        callers.begin(shelf);
        callers.ask(callers.number);
        return callers.wayAt(shelf, place, 0);
    }

    public int why(int place) {
        if (shelf.find(place, ANY) == null) {
            return refuseAt(place, ANY);
        }
        callers.begin(shelf);
        callers.ask(callers.number);
        return callers.whyAt(shelf, place, 0);
    }

    // ---- the shelf

    public int make(int place, int kind, int a, int b) {
        Place spot = shelf.placeAt(place);
        if (spot == null) {
            return refuse(BEYOND);
        }
        if (!within(kind, STOP_KIND) || !isFactor(a) || !within(b, SEATS - 1)) {
            return refuse(NO);
        }
        spot.putSwitch(kind, a, b);
        return 1;
    }

    public int note(int place, long v) {
        Place spot = shelf.placeAt(place);
        if (spot == null) {
            return refuse(BEYOND);
        }
        spot.putNote(v);
        return 1;
    }

    public int empty(int place) {
        Place spot = shelf.placeAt(place);
        if (spot == null) {
            return refuse(BEYOND);
        }
        return spot.clear() ? 1 : 0;
    }

    public int holds(int place) {
        Place spot = shelf.placeAt(place);
        if (spot == null) {
            return refuse(BEYOND);
        }
        return spot.content();
    }

    public long read(int place) {
        Place spot = shelf.placeAt(place);
        if (spot == null) {
            refuse(BEYOND);
            return 0L;
        }
        if (!spot.isNote) {
            refuse(spot.held == null ? MISSING : KIND);
            return 0L;
        }
        return spot.text;
    }

    public int rule(int place, int mark, int low, int high, int way) {
        if (!within(mark, MARKS - 1) || !within(way, WAYS - 1)) {
            return refuse(BEYOND);
        }
        Switch s = shelf.find(place, ANY);
        if (s == null) {
            return refuseAt(place, ANY);
        }
        return answer(s.rules.add(mark, low, high, way));
    }

    public int unrule(int place) {
        Switch s = shelf.find(place, ANY);
        if (s == null) {
            return refuseAt(place, ANY);
        }
        return answer(s.rules.dropLast());
    }

    public int share(int place, int way, int from, int n) {
        if (!isSharedWay(way)) {
            return refuse(BEYOND);
        }
        Switch s = shelf.find(place, ANY);
        if (s == null) {
            return refuseAt(place, ANY);
        }
        if (n < 0) {
            return refuse(BELOW);
        }
        boolean isFixed = way == GROWING_WAY && s.ladder.isStoodOn();
        if (isFixed || !s.shares.fits(way, from, n)) {
            return refuse(NO);
        }
        int before = s.shares.sizeOf(way);
        s.shares.put(way, from, n);
        return before;
    }

    public int shares(int place, int way, int what) {
        if (!isSharedWay(way)) {
            return refuse(BEYOND);
        }
        Switch s = shelf.find(place, ANY);
        if (s == null) {
            return refuseAt(place, ANY);
        }
        switch (what) {
            case 0: return s.shares.firstOf(way);
            case 1: return s.shares.sizeOf(way);
            default: return refuse(NO);
        }
    }

    public int hang(int place, int on, int way) {
        boolean onNone = on == NONE;
        if (!onNone && !within(way, WAYS - 1)) {
            return refuse(BEYOND);
        }
        int fault = hangFault(place, on);
        Switch s = shelf.find(place, HANGING);
        if (fault != 0 || s == null) {
            return refuse(fault);
        }
        int onBefore = s.on;
        int wayBefore = s.onWay;
        s.hangOn(on, onNone ? 0 : way);
        if (rings.findIn(shelf)) {
            s.hangOn(onBefore, wayBefore);
            return refuse(RING);
        }
        return 1;
    }

    public int stop(int place, int set, boolean on) {
        Switch s = shelf.find(place, STOPS);
        if (s == null) {
            return refuseAt(place, STOPS);
        }
        boolean hasOtherBits = (set >>> PLACES) != 0;
        if (hasOtherBits || hasBit(set, place)) {
            return refuse(NO);
        }
        int before = s.stopSet;
        s.stopSet = set;
        if (rings.findIn(shelf)) {
            s.stopSet = before;
            return refuse(RING);
        }
        s.isOn = on;
        return 1;
    }

    public int ring(int i) {
        return answer(rings.memberAt(i));
    }

    // ---- steps

    public int row(int place, int n) {
        Switch s = shelf.find(place, STEPPED);
        if (s == null) {
            return refuseAt(place, STEPPED);
        }
        if (n < 0) {
            return refuse(BELOW);
        }
        if (n == 0 || n > MOST_STEPS || s.ladder.isStoodOn()) {
            return refuse(NO);
        }
        s.ladder.layRow(n);
        return 1;
    }

    public int tear(int place) {
        Switch s = shelf.find(place, STEPPED);
        if (s == null) {
            return refuseAt(place, STEPPED);
        }
        return s.ladder.dropRow() ? 1 : 0;
    }

    public int step(int place, int i, int v) {
        Switch s = shelf.find(place, STEPPED);
        if (s == null) {
            return refuseAt(place, STEPPED);
        }
        if (!s.ladder.hasRow()) {
            return refuse(MISSING);
        }
        if (!s.ladder.hasStep(i)) {
            return refuse(BEYOND);
        }
        if (!within(v, SEATS) || s.ladder.stands >= i) {
            return refuse(NO);
        }
        int before = s.ladder.stepAt(i);
        s.ladder.setStep(i, v);
        return before;
    }

    public int copy(int place, int i, int other, int j, int n) {
        Switch from = shelf.find(place, STEPPED);
        Switch to = shelf.find(other, STEPPED);
        if (from == null || to == null) {
            return refuseAtEither(place, other, STEPPED);
        }
        if (!from.ladder.hasRow() || !to.ladder.hasRow()) {
            return refuse(MISSING);
        }
        if (to.ladder.isStoodOn()) {
            return refuse(NO);
        }
        if (!from.ladder.hasSteps(i, n) || !to.ladder.hasSteps(j, n)) {
            return refuse(COPY);
        }
        to.ladder.copySteps(from.ladder, i, j, n);
        return n;
    }

    public int grow(int place, int minute) {
        if (!within(minute, MINUTES - 1)) {
            return refuse(BEYOND);
        }
        Switch s = shelf.find(place, STEPPED);
        if (s == null) {
            return refuseAt(place, STEPPED);
        }
        int fault = s.growFault(minute);
        if (fault != 0) {
            return refuse(fault);
        }
        s.standOn(s.ladder.stands + 1);
        return s.shares.sizeOf(GROWING_WAY);
    }

    public int back(int place) {
        Switch s = shelf.find(place, STEPPED);
        if (s == null) {
            return refuseAt(place, STEPPED);
        }
        if (s.ladder.stands > 0 && !s.ladder.hasRow()) {
            return refuse(MISSING);
        }
        if (!s.ladder.isStoodOn()) {
            return refuse(NO);
        }
        s.standOn(s.ladder.stands - 1);
        return s.shares.sizeOf(GROWING_WAY);
    }

    public int stands(int place, int what) {
        Switch s = shelf.find(place, STEPPED);
        if (s == null) {
            return refuseAt(place, STEPPED);
        }
        switch (what) {
            case 0: return s.ladder.stands;
            case 1: return s.ladder.length;
            case 2: return s.budget.waitsTo;
            case 3: return s.budget.timesSpent;
            default: return refuse(NO);
        }
    }

    public int budget(int place, int window, int enough, int part, boolean toNone) {
        Switch s = shelf.find(place, STEPPED);
        if (s == null) {
            return refuseAt(place, STEPPED);
        }
        if (window < 1 || window > MOST_WINDOW || !within(enough, MOST_COUNTED) || !within(part, WHOLE)) {
            return refuse(NO);
        }
        s.budget.set(window, enough, part, toNone);
        return 1;
    }

    public int waits(int place, int wait) {
        Switch s = shelf.find(place, STEPPED);
        if (s == null) {
            return refuseAt(place, STEPPED);
        }
        if (!within(wait, MOST_WAIT)) {
            return refuse(NO);
        }
        int before = s.budget.wait;
        s.budget.wait = wait;
        return before;
    }

    // ---- counts

    public int count(int place, int way, int minute, int calls, int faults) {
        if (!isCountedAt(way, minute)) {
            return refuse(BEYOND);
        }
        Switch s = shelf.find(place, ANY);
        if (s == null) {
            return refuseAt(place, ANY);
        }
        CountRow row = s.rowOf(way);
        if (row == null) {
            return refuse(MISSING);
        }
        if (!within(calls, MOST_COUNTED) || !within(faults, calls)) {
            return refuse(NO);
        }
        row.tell(minute, calls, faults);
        if (way == GROWING_WAY) {
            s.goBackIfSpent(minute);
        }
        return s.shares.sizeOf(GROWING_WAY);
    }

    public int goods(int place, int way, int minute, int goods) {
        if (!isCountedAt(way, minute)) {
            return refuse(BEYOND);
        }
        Switch s = shelf.find(place, ANY);
        if (s == null) {
            return refuseAt(place, ANY);
        }
        CountRow row = s.rowOf(way);
        if (row == null) {
            return refuse(MISSING);
        }
        if (!row.isTold(minute)) {
            return refuse(UNTOLD);
        }
        if (!within(goods, row.callsAt(minute))) {
            return refuse(NO);
        }
        row.tellGoods(minute, goods);
        return 1;
    }

    public int counts(int place, int way, boolean there) {
        if (!within(way, COUNTED_WAYS - 1)) {
            return refuse(BEYOND);
        }
        Switch s = shelf.find(place, ANY);
        if (s == null) {
            return refuseAt(place, ANY);
        }
        int before = s.rowOf(way) == null ? 0 : 1;
        s.beginRow(way, there);
        return before;
    }

    public int told(int place, int way, int minute, int what) {
        if (!isCountedAt(way, minute)) {
            return refuse(BEYOND);
        }
        Switch s = shelf.find(place, ANY);
        if (s == null) {
            return refuseAt(place, ANY);
        }
        CountRow row = s.rowOf(way);
        if (row == null) {
            return refuse(MISSING);
        }
        if (!row.isTold(minute)) {
            return refuse(UNTOLD);
        }
        switch (what) {
            case 0: return row.callsAt(minute);
            case 1: return row.faultsAt(minute);
            case 2: return row.goodsAt(minute);
            default: return refuse(NO);
        }
    }

    public int left(int place, int minute) {
        if (!within(minute, MINUTES - 1)) {
            return refuse(BEYOND);
        }
        Switch s = shelf.find(place, STEPPED);
        if (s == null) {
            return refuseAt(place, STEPPED);
        }
        CountRow row = s.rowOf(GROWING_WAY);
        if (row == null) {
            return refuse(MISSING);
        }
        if (!row.areTold(s.budget.windowStart(minute), minute)) {
            return refuse(UNTOLD);
        }
        return s.budget.faultsLeft(row, minute);
    }

    // ---- trials

    public int trial(int place, int x, int y, int part, int looks) {
        if (!within(x, COUNTED_WAYS - 1) || !within(y, COUNTED_WAYS - 1)) {
            return refuse(BEYOND);
        }
        Switch s = shelf.find(place, TRIALS);
        if (s == null) {
            return refuseAt(place, TRIALS);
        }
        if (x == y || part < 1 || part > MOST_WRONGED || looks < 1 || looks > MOST_LOOKS) {
            return refuse(NO);
        }
        s.trial.begin(x, y, part, looks);
        return 1;
    }

    public int look(int place, int minute) {
        if (!within(minute, MINUTES - 1)) {
            return refuse(BEYOND);
        }
        Switch s = shelf.find(place, TRIALS);
        if (s == null) {
            return refuseAt(place, TRIALS);
        }
        CountRow x = s.rowOf(s.trial.x);
        CountRow y = s.rowOf(s.trial.y);
        if (x == null || y == null) {
            return refuse(MISSING);
        }
        if (s.trial.end != 0) {
            return refuse(NO);
        }
        int n1 = x.callsBeside(y, minute);
        int n2 = y.callsBeside(x, minute);
        if (n1 == 0 || n2 == 0) {
            return refuse(UNTOLD);
        }
        if (n1 > MOST_TRIED || n2 > MOST_TRIED) {
            return refuse(FULL);
        }
        return s.trial.judge(n1, n2, x.goodsBeside(y, minute), y.goodsBeside(x, minute));
    }

    public int trialTold(int place, int what) {
        Switch s = shelf.find(place, TRIALS);
        if (s == null) {
            return refuseAt(place, TRIALS);
        }
        switch (what) {
            case 0: return s.trial.millionths;
            case 1: return s.trial.n1;
            case 2: return s.trial.n2;
            case 3: return s.trial.g1;
            case 4: return s.trial.g2;
            case 5: return s.trial.made;
            case 6: return s.trial.end;
            default: return refuse(NO);
        }
    }

    // ---- callers in numbers

    public int among(int place, int way, int first, int n) {
        if (!within(way, WAYS - 1) || !within(first, LAST_NUMBER)) {
            return refuse(BEYOND);
        }
        if (shelf.find(place, ANY) == null) {
            return refuseAt(place, ANY);
        }
        int fault = crowdFault(first, n);
        if (fault != 0) {
            return refuse(fault);
        }
        callers.begin(shelf);
        int found = 0;
        for (int i = 0; i < n; i++) {
            callers.ask(first + i);
            if (callers.wayAt(shelf, place, 0) == way) {
                found++;
            }
        }
        return found;
    }

    public int both(int place, int other, int first, int n) {
        if (!within(first, LAST_NUMBER)) {
            return refuse(BEYOND);
        }
        if (shelf.find(place, ANY) == null || shelf.find(other, ANY) == null) {
            return refuseAtEither(place, other, ANY);
        }
        int fault = crowdFault(first, n);
        if (fault != 0) {
            return refuse(fault);
        }
        callers.begin(shelf);
        int found = 0;
        for (int i = 0; i < n; i++) {
            callers.ask(first + i);
            if (callers.wayAt(shelf, place, 0) == 1 && callers.wayAt(shelf, other, 0) == 1) {
                found++;
            }
        }
        return found;
    }

    public int moves(int place, int size, int first, int n) {
        if (!within(first, LAST_NUMBER)) {
            return refuse(BEYOND);
        }
        Switch s = shelf.find(place, ANY);
        if (s == null) {
            return refuseAt(place, ANY);
        }
        int fault = crowdFault(first, n);
        if (fault != 0) {
            return refuse(fault);
        }
        if (!s.shares.fits(GROWING_WAY, s.shares.firstOf(GROWING_WAY), size)) {
            return refuse(NO);
        }
        callers.begin(shelf);
        int found = 0;
        for (int i = 0; i < n; i++) {
            callers.ask(first + i);
            boolean seatMoves = s.shares.wouldMove(s.seatOf(first + i), size);
            if (seatMoves && callers.whyAt(shelf, place, 0) == BY_SEAT) {
                found++;
            }
        }
        return found;
    }

    // ---- all

    public int image() {
        kept.takeFrom(shelf);
        hasKept = true;
        return kept.switchCount();
    }

    public int restore() {
        if (!hasKept) {
            return refuse(MISSING);
        }
        shelf.takeFrom(kept);
        return shelf.switchCount();
    }

    public int status(int by) {
        if (!isRefusal(by)) {
            return refuse(NO);
        }
        return refused[-by];
    }

    // ---- what the calls share

    private static boolean within(int v, int last) {
        return v >= 0 && v <= last;
    }

    private static boolean hasBit(int set, int place) {
        return ((set >>> place) & 1) != 0;
    }

    private static boolean isFactor(int a) {
        return a >= 1 && a < SEATS && a % 2 != 0 && a % 5 != 0;
    }

    private static boolean isSharedWay(int way) {
        return way >= 1 && way < WAYS;
    }

    private static boolean isCountedAt(int way, int minute) {
        return within(way, COUNTED_WAYS - 1) && within(minute, MINUTES - 1);
    }

    private static boolean isRefusal(int by) {
        return by <= MISSING && by >= FULL;
    }

    private int refuse(int by) {
        if (isRefusal(by)) {
            refused[-by]++;
        }
        return by;
    }

    private int refuseAt(int place, int kinds) {
        return refuse(shelf.faultAt(place, kinds));
    }

    /** Only for answers that are below 0 just when they refuse: left() is none such. */
    private int answer(int got) {
        return got < 0 ? refuse(got) : got;
    }

    private int refuseAtEither(int place, int other, int kinds) {
        return refuse(firstFault(shelf.faultAt(place, kinds), shelf.faultAt(other, kinds)));
    }

    private int hangFault(int place, int on) {
        int own = shelf.faultAt(place, HANGING);
        int other = on == NONE ? 0 : shelf.faultAt(on, ANY);
        return firstFault(own, other);
    }

    // Each line has BEYOND, MISSING, KIND once for both PLACES: the word goes ahead, not the PLACE.
    private static int firstFault(int fault, int other) {
        if (fault == BEYOND || other == BEYOND) {
            return BEYOND;
        }
        if (fault == MISSING || other == MISSING) {
            return MISSING;
        }
        return fault != 0 ? fault : other;
    }

    private static int crowdFault(int first, int n) {
        if (n < 0) {
            return BELOW;
        }
        boolean fits = n >= 1 && n <= MOST_ASKED && first + n - 1 <= LAST_NUMBER;
        return fits ? 0 : NO;
    }

    /** The sixteen PLACES, as they are now or as an IMAGE has them. */
    private static final class Shelf {
        final Place[] places;

        Shelf() {
            places = new Place[PLACES];
            for (int p = 0; p < PLACES; p++) {
                places[p] = new Place();
            }
        }

        /** null: there is no such PLACE. */
        Place placeAt(int place) {
            return within(place, PLACES - 1) ? places[place] : null;
        }

        /** null: no SWITCH is there. */
        Switch switchAt(int place) {
            Place spot = placeAt(place);
            return spot == null ? null : spot.held;
        }

        /** null: it is refused, by what faultAt() tells. */
        Switch find(int place, int kinds) {
            return faultAt(place, kinds) == 0 ? switchAt(place) : null;
        }

        int faultAt(int place, int kinds) {
            Place spot = placeAt(place);
            if (spot == null) {
                return BEYOND;
            }
            if (spot.held == null) {
                return spot.isNote ? KIND : MISSING;
            }
            return hasBit(kinds, spot.held.kind) ? 0 : KIND;
        }

        int switchCount() {
            int n = 0;
            for (int p = 0; p < PLACES; p++) {
                if (switchAt(p) != null) {
                    n++;
                }
            }
            return n;
        }

        void takeFrom(Shelf other) {
            for (int p = 0; p < PLACES; p++) {
                places[p].takeFrom(other.places[p]);
            }
        }
    }

    /** What one PLACE holds; the SWITCH that it made once is used again, since rows are dear. */
    private static final class Place {
        Switch held;
        boolean isNote;
        long text;
        private Switch spare;

        int content() {
            if (held != null) {
                return held.kind;
            }
            return isNote ? NOTE_KIND : NONE;
        }

        void putSwitch(int kind, int a, int b) {
            clear();
            Switch s = spareSwitch();
            s.begin(kind, a, b);
            held = s;
        }

        void putNote(long v) {
            clear();
            isNote = true;
            text = v;
        }

        boolean clear() {
            boolean hadSomething = held != null || isNote;
            held = null;
            isNote = false;
            text = 0L;
            return hadSomething;
        }

        void takeFrom(Place other) {
            clear();
            isNote = other.isNote;
            text = other.text;
            if (other.held != null) {
                Switch s = spareSwitch();
                s.takeFrom(other.held);
                held = s;
            }
        }

        private Switch spareSwitch() {
            if (spare == null) {
                spare = new Switch();
            }
            return spare;
        }
    }

    /** A SWITCH of any KIND: what its KIND does not use stays as it was at first. */
    private static final class Switch {
        int kind;
        int a;
        int b;
        final Rules rules;
        final Shares shares;
        int on;
        int onWay;
        int stopSet;
        boolean isOn;
        final Ladder ladder;
        final Budget budget;
        final Trial trial;
        final CountRow[] rows;

        Switch() {
            rules = new Rules();
            shares = new Shares();
            ladder = new Ladder();
            budget = new Budget();
            trial = new Trial();
            rows = new CountRow[COUNTED_WAYS];
            for (int w = 0; w < COUNTED_WAYS; w++) {
                rows[w] = new CountRow();
            }
        }

        void begin(int newKind, int newA, int newB) {
            kind = newKind;
            a = newA;
            b = newB;
            rules.begin();
            shares.begin();
            hangOn(NONE, 0);
            stopSet = 0;
            isOn = false;
            ladder.begin();
            budget.begin();
            trial.begin(0, 1, 500, 1);
            for (int w = 0; w < COUNTED_WAYS; w++) {
                rows[w].begin(true);
            }
        }

        void takeFrom(Switch other) {
            kind = other.kind;
            a = other.a;
            b = other.b;
            rules.takeFrom(other.rules);
            shares.takeFrom(other.shares);
            hangOn(other.on, other.onWay);
            stopSet = other.stopSet;
            isOn = other.isOn;
            ladder.takeFrom(other.ladder);
            budget.takeFrom(other.budget);
            trial.takeFrom(other.trial);
            for (int w = 0; w < COUNTED_WAYS; w++) {
                rows[w].takeFrom(other.rows[w]);
            }
        }

        int seatOf(int number) {
            return (int) (((long) a * number + b) % SEATS);
        }

        void hangOn(int place, int way) {
            on = place;
            onWay = way;
        }

        boolean isStopOf(int place) {
            return kind == STOP_KIND && hasBit(stopSet, place);
        }

        /** null: the ROW of COUNTS is missing. */
        CountRow rowOf(int way) {
            return within(way, COUNTED_WAYS - 1) && rows[way].isThere ? rows[way] : null;
        }

        void beginRow(int way, boolean there) {
            if (within(way, COUNTED_WAYS - 1)) {
                rows[way].begin(there);
            }
        }

        // The STEP and the SEATS of WAY 1 change together, so that no call sees one without the other.
        void standOn(int step) {
            ladder.stands = step;
            shares.put(GROWING_WAY, shares.firstOf(GROWING_WAY), ladder.stepAt(step));
        }

        int growFault(int minute) {
            if (!ladder.hasRow()) {
                return MISSING;
            }
            int next = ladder.stands + 1;
            if (!ladder.hasStep(next)) {
                return BEYOND;
            }
            int fault = ladder.isStoodOn() ? budget.faultOf(rowOf(GROWING_WAY), minute) : 0;
            if (fault != 0) {
                return fault;
            }
            if (minute < budget.waitsTo) {
                return WAITING;
            }
            int size = ladder.stepAt(next);
            boolean isLess = size < shares.sizeOf(GROWING_WAY);
            return isLess || !shares.fits(GROWING_WAY, shares.firstOf(GROWING_WAY), size) ? NO : 0;
        }

        void goBackIfSpent(int minute) {
            if (!ladder.isStoodOn() || budget.faultOf(rowOf(GROWING_WAY), minute) != OVER) {
                return;
            }
            boolean toNone = budget.toNone || !ladder.hasRow();
            standOn(toNone ? NONE : ladder.stands - 1);
            budget.noteSpent(minute);
        }
    }

    /** The RULES of one SWITCH, in the order in which they came. */
    private static final class Rules {
        private int size;
        private final int[] marks = new int[MOST_RULES];
        private final int[] lows = new int[MOST_RULES];
        private final int[] highs = new int[MOST_RULES];
        private final int[] ways = new int[MOST_RULES];

        void begin() {
            size = 0;
        }

        void takeFrom(Rules other) {
            size = other.size;
            System.arraycopy(other.marks, 0, marks, 0, MOST_RULES);
            System.arraycopy(other.lows, 0, lows, 0, MOST_RULES);
            System.arraycopy(other.highs, 0, highs, 0, MOST_RULES);
            System.arraycopy(other.ways, 0, ways, 0, MOST_RULES);
        }

        int add(int mark, int low, int high, int way) {
            if (size >= MOST_RULES) {
                return FULL;
            }
            marks[size] = mark;
            lows[size] = low;
            highs[size] = high;
            ways[size] = way;
            size++;
            return size;
        }

        int dropLast() {
            if (size == 0) {
                return MISSING;
            }
            size--;
            return size;
        }

        /** From 1; 0: none holds. */
        int firstFor(Callers callers) {
            for (int i = 0; i < size; i++) {
                int mark = callers.markOf(marks[i]);
                if (mark >= lows[i] && mark <= highs[i]) {
                    return i + 1;
                }
            }
            return 0;
        }

        int wayOfRule(int rule) {
            return rule >= 1 && rule <= size ? ways[rule - 1] : 0;
        }
    }

    /** Which SEATS each WAY 1 .. 7 has; no two WAYS share one. */
    private static final class Shares {
        private final int[] firsts = new int[WAYS];
        private final int[] sizes = new int[WAYS];

        void begin() {
            Arrays.fill(firsts, 0);
            Arrays.fill(sizes, 0);
        }

        void takeFrom(Shares other) {
            System.arraycopy(other.firsts, 0, firsts, 0, WAYS);
            System.arraycopy(other.sizes, 0, sizes, 0, WAYS);
        }

        int firstOf(int way) {
            return isSharedWay(way) ? firsts[way] : 0;
        }

        int sizeOf(int way) {
            return isSharedWay(way) ? sizes[way] : 0;
        }

        void put(int way, int first, int size) {
            if (isSharedWay(way)) {
                firsts[way] = first;
                sizes[way] = size;
            }
        }

        boolean fits(int way, int first, int size) {
            // first is looked at ahead of the difference, which could wrap around else.
            if (!within(first, SEATS - 1) || !within(size, SEATS - first)) {
                return false;
            }
            for (int w = 1; w < WAYS; w++) {
                if (w != way && goesOver(w, first, size)) {
                    return false;
                }
            }
            return true;
        }

        private boolean goesOver(int way, int first, int size) {
            return size > 0 && sizes[way] > 0
                    && first < firsts[way] + sizes[way] && firsts[way] < first + size;
        }

        int wayOfSeat(int seat) {
            for (int w = 1; w < WAYS; w++) {
                if (seat >= firsts[w] && seat < firsts[w] + sizes[w]) {
                    return w;
                }
            }
            return 0;
        }

        /** A size that fits goes over no other WAY: so a SEAT moves just if it comes to WAY 1 or leaves it. */
        boolean wouldMove(int seat, int size) {
            int first = firsts[GROWING_WAY];
            boolean isIn = seat >= first && seat < first + sizes[GROWING_WAY];
            boolean wouldBeIn = seat >= first && seat < first + size;
            return isIn != wouldBeIn;
        }
    }

    /** The ROW of STEPS of a STEPPED one, and the STEP on which it STANDS. */
    private static final class Ladder {
        private final int[] steps = new int[MOST_STEPS];
        int length;
        int stands;

        void begin() {
            length = NONE;
            stands = NONE;
        }

        void takeFrom(Ladder other) {
            length = other.length;
            stands = other.stands;
            System.arraycopy(other.steps, 0, steps, 0, MOST_STEPS);
        }

        boolean hasRow() {
            return length != NONE;
        }

        boolean isStoodOn() {
            return stands != NONE;
        }

        void layRow(int n) {
            Arrays.fill(steps, 0);
            length = Math.min(n, MOST_STEPS);
        }

        boolean dropRow() {
            boolean had = hasRow();
            length = NONE;
            return had;
        }

        boolean hasStep(int i) {
            return i >= 0 && i < length;
        }

        boolean hasSteps(int i, int n) {
            // i is looked at ahead of the difference, which could wrap around else.
            return within(i, length) && within(n, length - i);
        }

        /** 0 of a STEP that is not there: on NONE a WAY has no SEATS. */
        int stepAt(int i) {
            return hasStep(i) ? steps[i] : 0;
        }

        void setStep(int i, int v) {
            if (hasStep(i)) {
                steps[i] = v;
            }
        }

        void copySteps(Ladder from, int i, int j, int n) {
            if (from.hasSteps(i, n) && hasSteps(j, n)) {
                System.arraycopy(from.steps, i, steps, j, n);
            }
        }
    }

    /** How many FAULTS a STEPPED one may have, and what it cost when they were more. */
    private static final class Budget {
        private int window;
        private int enough;
        private int part;
        boolean toNone;
        int wait;
        int waitsTo;
        int timesSpent;

        void begin() {
            set(1, 0, WHOLE, false);
            wait = 0;
            waitsTo = 0;
            timesSpent = 0;
        }

        void takeFrom(Budget other) {
            set(other.window, other.enough, other.part, other.toNone);
            wait = other.wait;
            waitsTo = other.waitsTo;
            timesSpent = other.timesSpent;
        }

        void set(int newWindow, int newEnough, int newPart, boolean newToNone) {
            window = newWindow;
            enough = newEnough;
            part = newPart;
            toNone = newToNone;
        }

        int windowStart(int minute) {
            return Math.max(0, minute - window + 1);
        }

        /** UNTOLD, FEW, OVER (it is SPENT) or 0; row is null where the ROW is missing. */
        int faultOf(CountRow row, int minute) {
            int start = windowStart(minute);
            if (row == null || !row.areTold(start, minute)) {
                return UNTOLD;
            }
            long calls = row.callsIn(start, minute);
            if (calls < enough) {
                return FEW;
            }
            long faults = row.faultsIn(start, minute);
            return calls > 0 && faults * WHOLE > part * calls ? OVER : 0;
        }

        int faultsLeft(CountRow row, int minute) {
            int start = windowStart(minute);
            long allowed = part * row.callsIn(start, minute) / WHOLE;
            return (int) (allowed - row.faultsIn(start, minute));
        }

        void noteSpent(int minute) {
            waitsTo = minute + wait + 1;
            timesSpent++;
        }
    }

    /** COUNTS of one WAY. MINUTES from end on are not told: so a ROW begins anew without being wiped. */
    private static final class CountRow {
        private static final int NOT_TOLD = -1;

        boolean isThere;
        private int end;
        private final int[] calls = new int[MINUTES];
        private final int[] faults = new int[MINUTES];
        private final int[] goods = new int[MINUTES];

        void begin(boolean there) {
            isThere = there;
            end = 0;
        }

        void takeFrom(CountRow other) {
            isThere = other.isThere;
            end = other.end;
            System.arraycopy(other.calls, 0, calls, 0, end);
            System.arraycopy(other.faults, 0, faults, 0, end);
            System.arraycopy(other.goods, 0, goods, 0, end);
        }

        boolean isTold(int minute) {
            return minute >= 0 && minute < end && calls[minute] != NOT_TOLD;
        }

        boolean areTold(int start, int last) {
            for (int m = start; m <= last; m++) {
                if (!isTold(m)) {
                    return false;
                }
            }
            return true;
        }

        void tell(int minute, int newCalls, int newFaults) {
            if (!within(minute, MINUTES - 1)) {
                return;
            }
            for (int m = end; m < minute; m++) {
                calls[m] = NOT_TOLD;
            }
            end = Math.max(end, minute + 1);
            calls[minute] = newCalls;
            faults[minute] = newFaults;
            goods[minute] = 0;
        }

        void tellGoods(int minute, int newGoods) {
            if (isTold(minute)) {
                goods[minute] = newGoods;
            }
        }

        int callsAt(int minute) {
            return isTold(minute) ? calls[minute] : 0;
        }

        int faultsAt(int minute) {
            return isTold(minute) ? faults[minute] : 0;
        }

        int goodsAt(int minute) {
            return isTold(minute) ? goods[minute] : 0;
        }

        long callsIn(int start, int last) {
            long sum = 0;
            for (int m = start; m <= last; m++) {
                sum += callsAt(m);
            }
            return sum;
        }

        long faultsIn(int start, int last) {
            long sum = 0;
            for (int m = start; m <= last; m++) {
                sum += faultsAt(m);
            }
            return sum;
        }

        /** CALLS of the MINUTES to last that are told here and in the other ROW. */
        int callsBeside(CountRow other, int last) {
            int sum = 0;
            for (int m = 0; m <= last; m++) {
                if (other.isTold(m)) {
                    sum += callsAt(m);
                }
            }
            return sum;
        }

        int goodsBeside(CountRow other, int last) {
            int sum = 0;
            for (int m = 0; m <= last; m++) {
                if (other.isTold(m)) {
                    sum += goodsAt(m);
                }
            }
            return sum;
        }
    }

    /** A TRIAL of two WAYS, and its latest LOOK. */
    private static final class Trial {
        private static final int X_IS_BETTER = 1;
        private static final int Y_IS_BETTER = 2;
        private static final int UNDECIDED = 3;

        int x;
        int y;
        private int part;
        private int looks;
        int made;
        int end;
        int millionths;
        int n1;
        int n2;
        int g1;
        int g2;

        void begin(int newX, int newY, int newPart, int newLooks) {
            x = newX;
            y = newY;
            part = newPart;
            looks = newLooks;
            made = 0;
            end = 0;
            millionths = 0;
            setLook(0, 0, 0, 0);
        }

        void takeFrom(Trial other) {
            begin(other.x, other.y, other.part, other.looks);
            made = other.made;
            end = other.end;
            millionths = other.millionths;
            setLook(other.n1, other.n2, other.g1, other.g2);
        }

        private void setLook(int calls1, int calls2, int goods1, int goods2) {
            n1 = calls1;
            n2 = calls2;
            g1 = goods1;
            g2 = goods2;
        }

        int judge(int calls1, int calls2, int goods1, int goods2) {
            setLook(calls1, calls2, goods1, goods2);
            made++;
            long all = choose(n1 + n2, g1 + g2);
            long apart = dealsAsFarApart();
            millionths = inMillionths(apart, all);
            if (isRare(apart, all)) {
                end = better();
            } else {
                end = made >= looks ? UNDECIDED : 0;
            }
            return end;
        }

        private int better() {
            int lead = g1 * n2 - g2 * n1;
            if (lead == 0) {
                return UNDECIDED;
            }
            return lead > 0 ? X_IS_BETTER : Y_IS_BETTER;
        }

        private long dealsAsFarApart() {
            int dealt = g1 + g2;
            int seen = Math.abs(g1 * n2 - g2 * n1);
            long sum = 0;
            for (int k = Math.max(0, dealt - n2); k <= Math.min(n1, dealt); k++) {
                if (Math.abs(k * n2 - (dealt - k) * n1) >= seen) {
                    sum += choose(n1, k) * choose(n2, dealt - k);
                }
            }
            return sum;
        }

        // apart * 10000 * looks would not fit a long: all is divided first, and its rest counted by itself.
        private boolean isRare(long apart, long all) {
            long scale = (long) WHOLE * looks;
            if (scale <= 0) {
                return false;
            }
            return apart <= part * (all / scale) + part * (all % scale) / scale;
        }

        // Digit by digit, since apart * 1000000 would not fit a long.
        private static int inMillionths(long apart, long all) {
            if (all <= 0) {
                return 0;
            }
            long cut = apart / all;
            long rest = apart % all;
            for (int digit = 0; digit < 6; digit++) {
                rest *= 10;
                cut = cut * 10 + rest / all;
                rest %= all;
            }
            return (int) cut;
        }

        /** For n up to 60: what stands between never goes beyond a long. */
        private static long choose(int n, int k) {
            long ways = 1;
            for (int i = 1; i <= k; i++) {
                ways = ways * (n - i + 1) / i;
            }
            return ways;
        }
    }

    /** THE CALLER, and the answers of SWITCHES for one NUMBER with THE CALLER's MARKS. */
    private static final class Callers {
        int number;
        private int land;
        private int age;
        private int sort;
        private int asked;
        private int stopsOn;
        // A PLACE may be asked over many others: what is known is not found out again.
        private int known;
        private final int[] ways = new int[PLACES];

        void become(int newNumber, int newLand, int newAge, int newSort) {
            number = newNumber;
            land = newLand;
            age = newAge;
            sort = newSort;
        }

        int markOf(int mark) {
            switch (mark) {
                case 0: return land;
                case 1: return age;
                default: return sort;
            }
        }

        void begin(Shelf shelf) {
            stopsOn = 0;
            for (int p = 0; p < PLACES; p++) {
                Switch s = shelf.switchAt(p);
                if (s != null && s.kind == STOP_KIND && s.isOn) {
                    stopsOn |= 1 << p;
                }
            }
        }

        void ask(int newNumber) {
            asked = newNumber;
            known = 0;
        }

        private int wayAt(Shelf shelf, int place, int depth) {
            Switch s = shelf.switchAt(place);
            // RINGS are refused, so no chain is longer than the SHELF.
            if (s == null || depth > PLACES) {
                return 0;
            }
            if (!hasBit(known, place)) {
                ways[place] = wayBy(s, whyAt(shelf, place, depth));
                known |= 1 << place;
            }
            return ways[place];
        }

        private int whyAt(Shelf shelf, int place, int depth) {
            Switch s = shelf.switchAt(place);
            if (s == null) {
                return BY_SEAT;
            }
            int stop = stopOf(shelf, place, depth);
            if (stop != NONE) {
                return BY_STOP + stop;
            }
            return hangHolds(shelf, s, depth) ? s.rules.firstFor(this) : BY_HANGING;
        }

        private int wayBy(Switch s, int why) {
            if (why >= BY_HANGING) {
                return 0;
            }
            return why == BY_SEAT ? s.shares.wayOfSeat(s.seatOf(asked)) : s.rules.wayOfRule(why);
        }

        private int stopOf(Shelf shelf, int place, int depth) {
            if (stopsOn == 0) {
                return NONE;
            }
            for (int p = 0; p < PLACES; p++) {
                Switch stop = hasBit(stopsOn, p) ? shelf.switchAt(p) : null;
                if (stop != null && stop.isStopOf(place) && hangHolds(shelf, stop, depth)) {
                    return p;
                }
            }
            return NONE;
        }

        private boolean hangHolds(Shelf shelf, Switch s, int depth) {
            if (shelf.switchAt(s.on) == null) {
                return true;
            }
            return wayAt(shelf, s.on, depth + 1) == s.onWay;
        }
    }

    /** Looks for PLACES that come to themselves, and keeps the RING that was found last. */
    private static final class Rings {
        private final int[] asks = new int[PLACES];
        private final int[] far = new int[PLACES];
        private final int[] members = new int[PLACES];
        private int size;

        int memberAt(int i) {
            return i >= 0 && i < size ? members[i] : BEYOND;
        }

        /** What it found before stays, where none is found. */
        boolean findIn(Shelf shelf) {
            gatherAsks(shelf);
            for (int p = 0; p < PLACES; p++) {
                measureTo(p);
                if (nearest(p) != NONE) {
                    keepFrom(p);
                    return true;
                }
            }
            return false;
        }

        private void gatherAsks(Shelf shelf) {
            Arrays.fill(asks, 0);
            for (int p = 0; p < PLACES; p++) {
                Switch s = shelf.switchAt(p);
                if (s != null && within(s.on, PLACES - 1)) {
                    asks[p] |= 1 << s.on;
                    gatherStopped(s);
                }
            }
        }

        private void gatherStopped(Switch s) {
            for (int p = 0; p < PLACES; p++) {
                if (s.isStopOf(p)) {
                    asks[p] |= 1 << s.on;
                }
            }
        }

        /** far[q]: over how many PLACE q comes to the goal, NONE if it does not. */
        private void measureTo(int goal) {
            Arrays.fill(far, NONE);
            far[goal] = 0;
            int reached = 1 << goal;
            for (int round = 1; round < PLACES; round++) {
                int newly = 0;
                for (int p = 0; p < PLACES; p++) {
                    if (far[p] == NONE && (asks[p] & reached) != 0) {
                        far[p] = round;
                        newly |= 1 << p;
                    }
                }
                reached = newly;
            }
        }

        /** Of those that a PLACE asks the one that is least far from the goal, the least of such. */
        private int nearest(int place) {
            int best = NONE;
            for (int q = 0; q < PLACES; q++) {
                boolean comesThere = hasBit(asks[place], q) && far[q] != NONE;
                if (comesThere && (best == NONE || far[q] < far[best])) {
                    best = q;
                }
            }
            return best;
        }

        private void keepFrom(int goal) {
            size = 0;
            int place = goal;
            for (int i = 0; i < PLACES; i++) {
                members[size] = place;
                size++;
                place = nearest(place);
                if (place == goal || place == NONE) {
                    return;
                }
            }
        }
    }
}
