/** Terms 1 and promises 6 to 14: what PLACES hold, RULES and SHARES, at their ends. */
public final class ShelfEdgesTest {
    private static final Check c = new Check();

    public static void main(String[] args) {
        everyFactor();
        factorsBelowOne();
        everyPlace();
        atFirst();
        atFirstAgain();
        notesOfEveryLong();
        noteIsKeptAsItIs();
        emptyTwice();
        noneIsNoRefusal();
        sixRulesAndNoMore();
        lastRuleGoes();
        shareBesideAnother();
        shareOfNothing();
        shareOverItsOwn();
        shareOfWhatStands();
        sharesOfEachSwitch();
        c.end();
    }

    /** "1 .. 9999, without a divisor 2 or 5" */
    private static void everyFactor() {
        for (int from = 1; from <= 10001; from += 400) {
            LadderDesk d = new LadderDesk();
            for (int a = from; a < from + 400; a++) {
                int last = a % 10;
                boolean isOne = a <= 9999 && (last == 1 || last == 3 || last == 7 || last == 9);
                c.due("a = " + a, d.make(0, 0, a, 0), isOne ? 1 : Check.NO);
            }
        }
    }

    private static void factorsBelowOne() {
        LadderDesk d = new LadderDesk();
        for (int a = -20; a <= 0; a++) {
            c.due("a = " + a, d.make(0, 0, a, 0), Check.NO);
        }
        for (int a : new int[] {Check.LEAST, Check.LEAST + 1, -9999, -10001, Check.MOST, Check.MOST - 2}) {
            c.due("a = " + a, d.make(0, 0, a, 0), Check.NO);
        }
        c.due("nothing came", d.holds(0), Check.NONE);
    }

    private static void everyPlace() {
        LadderDesk d = new LadderDesk();
        for (int p = 0; p < 16; p++) {
            c.due("make", d.make(p, p % 5, 1, p), 1);
        }
        for (int p = 0; p < 16; p++) {
            c.due("holds", d.holds(p), p % 5);
            c.due("its own", d.seat(p), p);
        }
        c.due("all are SWITCHES", d.image(), 16);
        for (int p = 0; p < 16; p++) {
            c.due("note", d.note(p, p), 1);
        }
        for (int p = 0; p < 16; p++) {
            c.due("read", d.read(p), p);
            c.due("empty", d.empty(p), 1);
        }
        c.due("none is a SWITCH", d.image(), 0);
    }

    private static void atFirst() {
        for (int kind = 0; kind <= 4; kind++) {
            LadderDesk d = new LadderDesk();
            d.make(15, kind, 1, 0);
            isAtFirst(d, kind);
        }
    }

    /** Whatever was at the PLACE, and however it went. */
    private static void atFirstAgain() {
        for (int kind = 0; kind <= 4; kind++) {
            for (int before = 0; before <= 4; before++) {
                LadderDesk d = used(before);
                d.make(15, kind, 1, 0);
                isAtFirst(d, kind);
                d = used(before);
                d.empty(15);
                d.make(15, kind, 1, 0);
                isAtFirst(d, kind);
                d = used(before);
                d.image();
                d.note(15, 9L);
                d.make(15, kind, 1, 0);
                isAtFirst(d, kind);
            }
        }
    }

    private static LadderDesk used(int kind) {
        LadderDesk d = new LadderDesk();
        d.make(0, Check.PLAIN, 1, 0);
        d.make(15, kind, 7, 9);
        for (int way = 1; way <= 7; way++) {
            d.share(15, way, 100 * way, way);
        }
        d.rule(15, 0, 0, 15, 7);
        d.hang(15, 0, 5);
        d.stop(15, 2, true);
        d.row(15, 20);
        d.step(15, 0, 50);
        d.budget(15, 60, 7, 1, true);
        d.waits(15, 100);
        d.grow(15, 0);
        for (int way = 0; way < 4; way++) {
            d.count(15, way, 0, 9, 9);
            d.goods(15, way, 0, 8);
            d.count(15, way, 239, 9, 9);
        }
        d.trial(15, 3, 2, 1, 2);
        d.look(15, 0);
        d.counts(15, 3, false);
        return d;
    }

    private static void isAtFirst(LadderDesk d, int kind) {
        c.due("KIND", d.holds(15), kind);
        c.due("b", d.seat(15), 0);
        c.due("WAY", d.way(15), 0);
        c.due("it hangs on none", d.why(15), 0);
        c.due("no RULE", d.unrule(15), Check.MISSING);
        for (int way = 1; way <= 7; way++) {
            c.due("first SEAT", d.shares(15, way, 0), 0);
            c.due("SEATS", d.shares(15, way, 1), 0);
        }
        for (int way = 0; way < 4; way++) {
            c.due("not told", d.told(15, way, 0, 0), Check.UNTOLD);
            c.due("not told", d.told(15, way, 239, 0), Check.UNTOLD);
            c.due("the ROW is there", d.counts(15, way, true), 1);
        }
        d.make(1, Check.PLAIN, 1, 0);
        c.due("it stops nothing", d.why(1), 0);
        if (kind == Check.STEPPED || kind == Check.TRIAL) {
            ladderIsAtFirst(d);
        }
        if (kind == Check.TRIAL) {
            trialIsAtFirst(d);
        }
        if (kind == Check.STOP) {
            c.due("its set is none", d.hang(15, 1, 0), 1);
        }
    }

    private static void ladderIsAtFirst(LadderDesk d) {
        int[] due = {Check.NONE, Check.NONE, 0, 0};
        for (int what = 0; what < 4; what++) {
            c.due("stands " + what, d.stands(15, what), due[what]);
        }
        c.due("WAIT", d.waits(15, 0), 0);
        c.due("no ROW", d.tear(15), 0);
        c.due("not told", d.left(15, 5), Check.UNTOLD);
        d.count(15, 1, 5, 4, 4);
        c.due("WINDOW 1, PART 10000", d.left(15, 5), 0);
        d.row(15, 20);
        for (int i = 0; i < 20; i++) {
            c.due("STEP " + i, d.step(15, i, 0), 0);
        }
        c.due("to STEP 0", d.grow(15, 5), 0);
        d.count(15, 1, 5, 0, 0);
        c.due("ENOUGH is 0", d.grow(15, 5), 0);
        c.due("it STANDS on STEP 1", d.stands(15, 0), 1);
        d.counts(15, 1, true);
        d.tear(15);
        d.back(15);
    }

    private static void trialIsAtFirst(LadderDesk d) {
        for (int what = 0; what < 7; what++) {
            c.due("trialTold " + what, d.trialTold(15, what), 0);
        }
        d.count(15, 0, 1, 4, 0);
        d.goods(15, 0, 1, 4);
        d.count(15, 1, 1, 4, 0);
        c.due("WAYS 0 and 1, 2 of 70 is not above 500 of 10000", d.look(15, 1), 1);
        d.make(15, Check.TRIAL, 1, 0);
        d.count(15, 0, 1, 9, 0);
        d.goods(15, 0, 1, 4);
        d.count(15, 1, 1, 6, 0);
        c.due("one LOOK is the last", d.look(15, 1), 3);
    }

    private static void notesOfEveryLong() {
        LadderDesk d = new LadderDesk();
        long[] all = {0L, 1L, -1L, -2L, -13L, Long.MIN_VALUE, Long.MAX_VALUE, Integer.MIN_VALUE - 1L, Integer.MAX_VALUE + 1L};
        for (long v : all) {
            c.due("note", d.note(0, v), 1);
            c.due("holds", d.holds(0), 5);
            c.due("read", d.read(0), v);
        }
        for (int by = -13; by <= -2; by++) {
            c.due("none was refused", d.status(by), 0);
        }
    }

    private static void noteIsKeptAsItIs() {
        LadderDesk d = new LadderDesk();
        d.note(0, 0L);
        c.due("a NOTE of 0 is something", d.holds(0), 5);
        c.due("seat", d.seat(0), Check.KIND);
        c.due("empty", d.empty(0), 1);
        c.due("nothing", d.read(0), 0L);
        c.due("it was refused", d.status(Check.MISSING), 1);
    }

    private static void emptyTwice() {
        LadderDesk d = Check.ofEachKind();
        for (int p = 0; p <= 5; p++) {
            c.due("it held something", d.empty(p), 1);
            c.due("it held nothing", d.empty(p), 0);
            c.due("nothing", d.holds(p), Check.NONE);
        }
        c.due("it held nothing", d.empty(15), 0);
        c.due("no SWITCH is left", d.image(), 0);
    }

    private static void noneIsNoRefusal() {
        LadderDesk d = Check.ofEachKind();
        c.due("holds", d.holds(15), Check.NONE);
        c.due("stands", d.stands(1, 0), Check.NONE);
        c.due("stands", d.stands(1, 1), Check.NONE);
        for (int by = -13; by <= -2; by++) {
            c.due("none was refused", d.status(by), 0);
        }
    }

    private static void sixRulesAndNoMore() {
        LadderDesk d = Check.ofEachKind();
        for (int p = 0; p < 5; p++) {
            for (int i = 1; i <= 6; i++) {
                c.due("how many it has", d.rule(p, 0, 0, 15, i), i);
            }
            c.due("no room", d.rule(p, 0, 0, 15, 7), Check.FULL);
            c.due("it is as it was", d.way(p), 1);
            c.due("one goes", d.unrule(p), 5);
            c.due("room for one", d.rule(p, 0, 0, 15, 7), 6);
            c.due("no room", d.rule(p, 0, 0, 15, 7), Check.FULL);
        }
        c.due("all were counted", d.status(Check.FULL), 10);
    }

    private static void lastRuleGoes() {
        LadderDesk d = Check.ofEachKind();
        for (int i = 1; i <= 6; i++) {
            d.rule(0, 0, i == 6 ? 0 : 1, 15, i);
        }
        c.due("the sixth", d.why(0), 6);
        c.due("unrule", d.unrule(0), 5);
        c.due("it was the last", d.why(0), 0);
        d.caller(0, 1, 0, 0);
        for (int i = 4; i >= 0; i--) {
            c.due("the first is there still", d.why(0), 1);
            c.due("unrule", d.unrule(0), i);
        }
        c.due("none", d.why(0), 0);
        c.due("unrule", d.unrule(0), Check.MISSING);
        c.due("and again", d.unrule(0), Check.MISSING);
        c.due("rule", d.rule(0, 0, 0, 0, 0), 1);
    }

    /** WAY 2 has 100 .. 199: WAY 3 may come up to it from both sides. */
    private static void shareBesideAnother() {
        int[][] taken = {{0, 100}, {99, 1}, {200, 1}, {200, 9800}, {50, 50}};
        int[][] refused = {{0, 101}, {99, 2}, {100, 1}, {100, 100}, {150, 1}, {199, 1}, {199, 2}, {50, 200}, {0, 10000}};
        for (int[] n : taken) {
            LadderDesk d = Check.ofEachKind();
            d.share(0, 2, 100, 100);
            c.due("from " + n[0] + ", " + n[1], d.share(0, 3, n[0], n[1]), 0);
            c.due("first SEAT", d.shares(0, 3, 0), n[0]);
            c.due("SEATS", d.shares(0, 3, 1), n[1]);
        }
        for (int[] n : refused) {
            LadderDesk d = Check.ofEachKind();
            d.share(0, 2, 100, 100);
            d.share(0, 3, 7, 8);
            c.due("from " + n[0] + ", " + n[1], d.share(0, 3, n[0], n[1]), Check.NO);
            c.due("first SEAT", d.shares(0, 3, 0), 7);
            c.due("SEATS", d.shares(0, 3, 1), 8);
        }
        for (int way = 1; way <= 7; way++) {
            for (int other = 1; other <= 7; other++) {
                LadderDesk d = Check.ofEachKind();
                d.share(0, way, 9999, 1);
                c.due("WAY " + other + " over " + way, d.share(0, other, 9998, 2), way == other ? 1 : Check.NO);
            }
        }
    }

    private static void shareOfNothing() {
        LadderDesk d = Check.ofEachKind();
        d.share(0, 2, 100, 100);
        for (int from : new int[] {0, 100, 150, 199, 200, 9999}) {
            c.due("0 SEATS go over none", d.share(0, 3, from, 0), 0);
            c.due("first SEAT", d.shares(0, 3, 0), from);
        }
        d.share(0, 3, 300, 0);
        c.due("none goes over 0 SEATS", d.share(0, 4, 250, 100), 0);
        c.due("beyond", d.share(0, 3, 10000, 0), Check.NO);
        c.due("below", d.share(0, 3, -1, 0), Check.NO);
        c.due("it stays where it was", d.shares(0, 3, 0), 300);
    }

    private static void shareOverItsOwn() {
        LadderDesk d = Check.ofEachKind();
        c.due("all", d.share(0, 5, 0, 10000), 0);
        c.due("all again", d.share(0, 5, 0, 10000), 10000);
        c.due("the last SEAT", d.share(0, 5, 9999, 1), 10000);
        c.due("the first SEAT", d.share(0, 5, 0, 1), 1);
        c.due("none", d.share(0, 5, 0, 0), 1);
        c.due("it had none", d.share(0, 5, 1, 9999), 0);
        c.due("one more", d.share(0, 5, 1, 10000), Check.NO);
        c.due("it had", d.share(0, 5, 0, 0), 9999);
    }

    private static void shareOfWhatStands() {
        for (int kind : new int[] {Check.STEPPED, Check.TRIAL}) {
            LadderDesk d = new LadderDesk();
            d.make(0, kind, 1, 0);
            d.row(0, 1);
            c.due("on NONE", d.share(0, 1, 40, 0), 0);
            d.grow(0, 0);
            c.due("WAY 1", d.share(0, 1, 40, 0), Check.NO);
            c.due("WAY 1 of n below 0", d.share(0, 1, 40, -1), Check.BELOW);
            for (int way = 2; way <= 7; way++) {
                c.due("another WAY", d.share(0, way, 100 * way, 5), 0);
            }
            d.tear(0);
            c.due("without a ROW it STANDS still", d.share(0, 1, 40, 0), Check.NO);
            d.back(0);
            c.due("on NONE", d.share(0, 1, 40, 0), 0);
        }
    }

    private static void sharesOfEachSwitch() {
        LadderDesk d = Check.ofEachKind();
        for (int p = 0; p < 5; p++) {
            c.due("share", d.share(p, 7, p, 10 + p), 0);
        }
        for (int p = 0; p < 5; p++) {
            c.due("its own first", d.shares(p, 7, 0), p);
            c.due("its own SEATS", d.shares(p, 7, 1), 10 + p);
            c.due("another WAY", d.shares(p, 6, 1), 0);
        }
    }
}
