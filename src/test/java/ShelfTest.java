/** Promises 1 and 6 to 17. */
public final class ShelfTest {
    private static final Check c = new Check();

    public static void main(String[] args) {
        newShelfIsEmpty();
        makeIsTaken();
        makeIsRefused();
        makeBeginsAnew();
        notes();
        emptyAndHolds();
        ruleAndUnrule();
        share();
        shareIsRefused();
        shares();
        hangIsRefused();
        stopIsRefused();
        ringOverThree();
        ringTakesTheShortest();
        ringTakesTheLeast();
        ringEndsAtItsGoal();
        ringOverStops();
        ringGoesOverEmptyPlaces();
        ringEndsWithWhatIsGone();
        c.end();
    }

    private static void newShelfIsEmpty() {
        LadderDesk d = new LadderDesk();
        for (int p = 0; p < 16; p++) {
            c.due("holds", d.holds(p), Check.NONE);
        }
        c.due("no IMAGE", d.restore(), Check.MISSING);
        c.due("no RING", d.ring(0), Check.BEYOND);
        for (int by = -13; by <= -2; by++) {
            int one = by == Check.MISSING || by == Check.BEYOND ? 1 : 0;
            c.due("status " + by, d.status(by), one);
        }
    }

    private static void makeIsTaken() {
        LadderDesk d = new LadderDesk();
        for (int kind = 0; kind <= 4; kind++) {
            c.due("make", d.make(15, kind, 9999, 9999), 1);
            c.due("holds", d.holds(15), kind);
        }
        for (int a : new int[] {1, 3, 7, 9, 11, 9997}) {
            c.due("a " + a, d.make(0, 0, a, 0), 1);
        }
    }

    private static void makeIsRefused() {
        LadderDesk d = new LadderDesk();
        d.note(0, 4L);
        for (int place : new int[] {-1, 16, Check.LEAST, Check.MOST}) {
            c.due("place " + place, d.make(place, 9, 2, -1), Check.BEYOND);
        }
        for (int kind : new int[] {-1, 5, Check.LEAST, Check.MOST}) {
            c.due("kind " + kind, d.make(0, kind, 1, 0), Check.NO);
        }
        for (int a : new int[] {0, -1, -3, 2, 4, 5, 10, 15, 9998, 9995, 10000, 10001, Check.LEAST, Check.MOST}) {
            c.due("a " + a, d.make(0, 0, a, 0), Check.NO);
        }
        for (int b : new int[] {-1, 10000, Check.LEAST, Check.MOST}) {
            c.due("b " + b, d.make(0, 0, 1, b), Check.NO);
        }
        c.due("the NOTE stays", d.read(0), 4L);
    }

    private static void makeBeginsAnew() {
        LadderDesk d = new LadderDesk();
        d.make(1, Check.PLAIN, 1, 0);
        d.make(2, Check.PLAIN, 1, 0);
        d.make(0, Check.STOP, 1, 0);
        d.stop(0, 4, true);
        d.hang(0, 1, 3);
        d.make(0, Check.TRIAL, 1, 0);
        d.share(0, 1, 40, 50);
        d.rule(0, 0, 0, 15, 3);
        d.row(0, 2);
        d.step(0, 1, 60);
        d.budget(0, 2, 3, 4, true);
        d.waits(0, 5);
        d.counts(0, 3, false);
        d.count(0, 0, 1, 2, 0);
        d.count(0, 1, 1, 2, 0);
        d.trial(0, 1, 0, 100, 20);
        d.look(0, 1);
        d.make(0, Check.TRIAL, 3, 4);
        c.due("first SEAT", d.shares(0, 1, 0), 0);
        c.due("SEATS", d.shares(0, 1, 1), 0);
        c.due("no RULE", d.unrule(0), Check.MISSING);
        c.due("no ROW", d.stands(0, 1), Check.NONE);
        c.due("STANDS", d.stands(0, 0), Check.NONE);
        c.due("waits", d.stands(0, 2), 0);
        c.due("taken BACK", d.stands(0, 3), 0);
        c.due("WAIT", d.waits(0, 0), 0);
        c.due("COUNTS are there", d.counts(0, 3, true), 1);
        c.due("COUNTS are not told", d.told(0, 0, 1, 0), Check.UNTOLD);
        c.due("LOOKS", d.trialTold(0, 5), 0);
        c.due("n1", d.trialTold(0, 1), 0);
        c.due("seat", d.seat(0), 4);
        d.row(0, 1);
        c.due("STEPS are 0", d.step(0, 0, 0), 0);
        d.row(0, 1);
        d.budget(0, 1, 0, 0, false);
        d.grow(0, 0);
        d.count(0, 1, 0, 1, 1);
        c.due("taken BACK", d.stands(0, 3), 1);
        d.make(0, Check.STEPPED, 1, 0);
        c.due("taken BACK", d.stands(0, 3), 0);
        c.due("waits", d.stands(0, 2), 0);
        d.make(0, Check.STOP, 1, 0);
        c.due("it is not ON, its set is none", d.why(2), 0);
        c.due("it hangs on none", d.why(0), 0);
        c.due("its set is none", d.hang(0, 2, 0), 1);
    }

    private static void notes() {
        LadderDesk d = Check.ofEachKind();
        c.due("note", d.note(15, Long.MIN_VALUE), 1);
        c.due("read", d.read(15), Long.MIN_VALUE);
        c.due("note", d.note(15, Long.MAX_VALUE), 1);
        c.due("read", d.read(15), Long.MAX_VALUE);
        c.due("a SWITCH over it", d.make(15, Check.PLAIN, 1, 0), 1);
        c.due("it is no NOTE any more", d.read(15), 0L);
        c.due("KIND", d.status(Check.KIND), 1);
        c.due("over a SWITCH", d.note(0, -7L), 1);
        c.due("read", d.read(0), -7L);
        c.due("holds", d.holds(0), 5);
        for (int place : new int[] {-1, 16, Check.LEAST, Check.MOST}) {
            c.due("note", d.note(place, 1L), Check.BEYOND);
            c.due("read", d.read(place), 0L);
        }
        c.due("both were counted", d.status(Check.BEYOND), 8);
        c.due("a SWITCH", d.read(1), 0L);
        c.due("KIND", d.status(Check.KIND), 2);
        c.due("nothing", d.read(9), 0L);
        c.due("MISSING", d.status(Check.MISSING), 1);
    }

    private static void emptyAndHolds() {
        LadderDesk d = Check.ofEachKind();
        for (int p = 0; p < 6; p++) {
            c.due("holds", d.holds(p), p);
            c.due("empty", d.empty(p), 1);
            c.due("holds", d.holds(p), Check.NONE);
            c.due("empty", d.empty(p), 0);
            c.due("seat", d.seat(p), Check.MISSING);
        }
        c.due("NONE is no refusal", d.status(Check.NO), 0);
        for (int place : new int[] {-1, 16, Check.LEAST, Check.MOST}) {
            c.due("empty", d.empty(place), Check.BEYOND);
            c.due("holds", d.holds(place), Check.BEYOND);
        }
    }

    private static void ruleAndUnrule() {
        LadderDesk d = Check.ofEachKind();
        for (int i = 1; i <= 6; i++) {
            c.due("rule", d.rule(0, i % 3, 5, 1, i), i);
        }
        c.due("a seventh", d.rule(0, 0, 0, 0, 0), Check.FULL);
        c.due("MARK goes ahead of FULL", d.rule(0, 3, 0, 0, 0), Check.BEYOND);
        for (int i = 5; i >= 0; i--) {
            c.due("unrule", d.unrule(0), i);
        }
        c.due("unrule", d.unrule(0), Check.MISSING);
        c.due("mark", d.rule(0, -1, 0, 0, 0), Check.BEYOND);
        c.due("mark", d.rule(6, 3, 0, 0, 0), Check.BEYOND);
        c.due("way", d.rule(5, 0, 0, 0, 8), Check.BEYOND);
        c.due("way", d.rule(0, 0, 0, 0, -1), Check.BEYOND);
        c.due("way 7", d.rule(0, 0, 0, 0, 7), 1);
        c.due("way 0", d.rule(0, 2, 0, 0, 0), 2);
        for (int place : new int[] {-1, 16, Check.LEAST, Check.MOST}) {
            c.due("rule", d.rule(place, 0, 0, 0, 0), Check.BEYOND);
            c.due("unrule", d.unrule(place), Check.BEYOND);
        }
        c.due("rule", d.rule(5, 0, 0, 0, 0), Check.KIND);
        c.due("unrule", d.unrule(5), Check.KIND);
        c.due("rule", d.rule(6, 0, 0, 0, 0), Check.MISSING);
        c.due("unrule", d.unrule(6), Check.MISSING);
        for (int place = 1; place < 5; place++) {
            c.due("every KIND", d.rule(place, 0, 0, 0, 0), 1);
        }
    }

    private static void share() {
        LadderDesk d = new LadderDesk();
        d.make(0, Check.PLAIN, 1, 0);
        c.due("all", d.share(0, 1, 0, 10000), 0);
        c.due("fewer", d.share(0, 1, 100, 100), 10000);
        c.due("ahead of it", d.share(0, 2, 0, 100), 0);
        c.due("behind it", d.share(0, 3, 200, 9800), 0);
        c.due("none, within another's", d.share(0, 4, 150, 0), 0);
        c.due("one, within another's", d.share(0, 4, 150, 1), Check.NO);
        c.due("over its end", d.share(0, 2, 0, 101), Check.NO);
        c.due("over its begin", d.share(0, 3, 199, 1), Check.NO);
        c.due("over all of it", d.share(0, 4, 0, 10000), Check.NO);
        c.due("over its own", d.share(0, 1, 150, 50), 100);
        c.due("it is free now", d.share(0, 4, 100, 50), 0);
        c.due("none of it is left", d.share(0, 1, 0, 0), 50);
        c.due("it is free now", d.share(0, 4, 100, 100), 50);
        c.due("the last SEAT", d.share(0, 3, 9999, 1), 9800);
        c.due("WAY 7", d.share(0, 7, 9998, 1), 0);
    }

    private static void shareIsRefused() {
        LadderDesk d = Check.ofEachKind();
        for (int place : new int[] {-1, 16, Check.LEAST, Check.MOST}) {
            c.due("place", d.share(place, 1, 0, -1), Check.BEYOND);
        }
        for (int way : new int[] {0, 8, -1, Check.LEAST, Check.MOST}) {
            c.due("way", d.share(0, way, 0, -1), Check.BEYOND);
            c.due("way", d.share(6, way, 0, -1), Check.BEYOND);
        }
        c.due("nothing", d.share(6, 1, 0, -1), Check.MISSING);
        c.due("NOTE", d.share(5, 1, 0, -1), Check.KIND);
        c.due("n", d.share(0, 1, -1, -1), Check.BELOW);
        c.due("n", d.share(0, 1, 0, Check.LEAST), Check.BELOW);
        int[][] none = {{-1, 0}, {10000, 0}, {0, 10001}, {9999, 2}, {1, 10000}, {Check.MOST, Check.MOST},
            {1, Check.MOST}, {9999, Check.MOST}, {Check.LEAST, 5}};
        for (int[] n : none) {
            c.due("from " + n[0] + " n " + n[1], d.share(0, 1, n[0], n[1]), Check.NO);
        }
        d.row(1, 1);
        d.grow(1, 0);
        c.due("it STANDS on a STEP", d.share(1, 1, 0, 0), Check.NO);
        c.due("n goes ahead", d.share(1, 1, 0, -1), Check.BELOW);
        c.due("another WAY", d.share(1, 2, 0, 5), 0);
        d.back(1);
        c.due("it STANDS on NONE", d.share(1, 1, 5, 5), 0);
    }

    private static void shares() {
        LadderDesk d = Check.ofEachKind();
        for (int way = 1; way <= 7; way++) {
            c.due("first", d.shares(0, way, 0), 0);
            c.due("size", d.shares(0, way, 1), 0);
        }
        d.share(0, 7, 9, 21);
        c.due("first", d.shares(0, 7, 0), 9);
        c.due("size", d.shares(0, 7, 1), 21);
        d.share(0, 7, 300, 0);
        c.due("first of none", d.shares(0, 7, 0), 300);
        c.due("refused share", d.share(0, 7, 9999, 2), Check.NO);
        c.due("first stays", d.shares(0, 7, 0), 300);
        for (int what : new int[] {-1, 2, Check.LEAST, Check.MOST}) {
            c.due("what", d.shares(0, 1, what), Check.NO);
        }
        c.due("place", d.shares(16, 1, 0), Check.BEYOND);
        c.due("place", d.shares(-1, 1, 5), Check.BEYOND);
        c.due("way", d.shares(6, 0, 5), Check.BEYOND);
        c.due("way", d.shares(5, 8, 5), Check.BEYOND);
        c.due("nothing", d.shares(6, 1, 5), Check.MISSING);
        c.due("NOTE", d.shares(5, 1, 5), Check.KIND);
    }

    private static void hangIsRefused() {
        LadderDesk d = Check.ofEachKind();
        for (int place : new int[] {-1, 16, Check.LEAST, Check.MOST}) {
            c.due("place", d.hang(place, 0, 0), Check.BEYOND);
            c.due("place", d.hang(place, Check.NONE, 0), Check.BEYOND);
            c.due("BEYOND goes ahead of MISSING", d.hang(place, 6, 0), Check.BEYOND);
        }
        for (int on : new int[] {-2, 16, Check.LEAST, Check.MOST}) {
            c.due("on", d.hang(3, on, 0), Check.BEYOND);
            c.due("on", d.hang(6, on, 0), Check.BEYOND);
        }
        for (int way : new int[] {-1, 8, Check.LEAST, Check.MOST}) {
            c.due("way", d.hang(3, 0, way), Check.BEYOND);
            c.due("way", d.hang(6, 7, way), Check.BEYOND);
            c.due("on NONE way does not matter", d.hang(3, Check.NONE, way), 1);
        }
        c.due("nothing here", d.hang(6, 0, 0), Check.MISSING);
        c.due("nothing there", d.hang(3, 6, 0), Check.MISSING);
        c.due("MISSING goes ahead of KIND", d.hang(0, 6, 0), Check.MISSING);
        c.due("MISSING goes ahead of KIND", d.hang(6, 5, 0), Check.MISSING);
        c.due("nothing here", d.hang(6, Check.NONE, 0), Check.MISSING);
        for (int place : new int[] {0, 1, 2, 5}) {
            c.due("it is not HANGING", d.hang(place, 3, 0), Check.KIND);
            c.due("it is not HANGING", d.hang(place, place, 0), Check.KIND);
            c.due("it is not HANGING", d.hang(place, Check.NONE, 0), Check.KIND);
        }
        c.due("on a NOTE", d.hang(3, 5, 0), Check.KIND);
        for (int on = 0; on < 3; on++) {
            c.due("on each KIND", d.hang(3, on, 7), 1);
            c.due("on each KIND", d.hang(4, on, 0), 1);
        }
        c.due("a STOP hangs", d.hang(4, 3, 0), 1);
        c.due("RING", d.hang(3, 4, 0), Check.RING);
    }

    private static void stopIsRefused() {
        LadderDesk d = Check.ofEachKind();
        for (int place : new int[] {-1, 16, Check.LEAST, Check.MOST}) {
            c.due("place", d.stop(place, -1, true), Check.BEYOND);
        }
        c.due("nothing", d.stop(6, -1, true), Check.MISSING);
        for (int place : new int[] {0, 1, 2, 3, 5}) {
            c.due("no STOP", d.stop(place, -1, true), Check.KIND);
        }
        for (int set : new int[] {-1, 1 << 16, 1 << 31, 16, 0xFFFF, Check.LEAST, Check.MOST}) {
            c.due("set", d.stop(4, set, true), Check.NO);
        }
        c.due("not ON", d.why(0), 0);
        c.due("all others", d.stop(4, 0xFFEF, true), 1);
        c.due("stopped", d.why(0), 12);
        c.due("itself is not", d.why(4), 0);
        c.due("NO goes ahead of RING", d.stop(4, 16, false), Check.NO);
        c.due("on what it stops", d.hang(4, 0, 0), Check.RING);
        c.due("stopped", d.why(0), 12);
        d.stop(4, 0, false);
        d.hang(4, 0, 0);
        c.due("what it hangs on", d.stop(4, 1, true), Check.RING);
        c.due("the set is as it was, none", d.hang(4, 0, 0), 1);
        c.due("what is refused changes nothing", d.stop(4, 2, true), 1);
        c.due("set", d.why(1), 12);
        c.due("ring", d.ring(0), 0);
        c.due("ring", d.ring(1), Check.BEYOND);
    }

    private static void ringOverThree() {
        LadderDesk d = hangers();
        d.hang(9, 4, 0);
        d.hang(4, 7, 0);
        d.hang(2, 9, 0);
        c.due("RING", d.hang(7, 9, 0), Check.RING);
        c.ringIs(d, 4, 7, 9);
        c.due("what is refused changes nothing", d.hang(7, 3, 0), 1);
        c.ringIs(d, 4, 7, 9);
        c.due("itself", d.hang(15, 15, 3), Check.RING);
        c.ringIs(d, 15);
        c.due("hangs on none", d.hang(4, Check.NONE, 0), 1);
        c.due("no RING any more", d.hang(7, 9, 0), 1);
        c.ringIs(d, 15);
    }

    private static void ringTakesTheShortest() {
        LadderDesk d = hangers();
        d.make(14, Check.STOP, 1, 0);
        d.make(15, Check.STOP, 1, 0);
        d.hang(1, 2, 0);
        d.hang(2, 3, 0);
        d.hang(3, 4, 0);
        d.hang(14, 4, 0);
        d.stop(14, 1 << 1, false);
        c.due("RING", d.hang(4, 1, 0), Check.RING);
        c.ringIs(d, 1, 4);
        d.hang(4, 5, 0);
        d.hang(5, 6, 0);
        d.hang(15, 6, 0);
        d.stop(15, 1 << 2, true);
        c.due("RING", d.hang(6, 2, 0), Check.RING);
        c.ringIs(d, 2, 6);
        c.due("RING", d.hang(6, 1, 0), Check.RING);
        c.ringIs(d, 1, 2, 6);
    }

    private static void ringTakesTheLeast() {
        LadderDesk d = hangers();
        d.make(14, Check.STOP, 1, 0);
        d.hang(1, 9, 0);
        d.hang(9, 12, 0);
        d.hang(8, 12, 0);
        d.hang(14, 8, 0);
        d.stop(14, 1 << 1, false);
        c.due("RING", d.hang(12, 1, 0), Check.RING);
        c.ringIs(d, 1, 8, 12);
        d.hang(1, 8, 0);
        d.hang(14, 9, 0);
        c.due("RING", d.hang(12, 1, 0), Check.RING);
        c.ringIs(d, 1, 8, 12);
    }

    private static void ringEndsAtItsGoal() {
        LadderDesk d = hangers();
        d.make(14, Check.STOP, 1, 0);
        d.hang(14, 5, 0);
        d.stop(14, 1 << 4, false);
        d.hang(4, 1, 0);
        d.hang(5, 1, 0);
        c.due("4 asks the goal, and one more that comes to it", d.hang(1, 4, 0), Check.RING);
        c.ringIs(d, 1, 4);
    }

    private static void ringOverStops() {
        LadderDesk d = hangers();
        d.make(10, Check.STOP, 1, 0);
        d.hang(10, 3, 0);
        d.stop(10, 1 << 5, false);
        c.due("it asks what the STOP hangs on, not the STOP", d.hang(3, 10, 0), Check.RING);
        c.ringIs(d, 3, 10);
        c.due("RING", d.hang(3, 5, 0), Check.RING);
        c.ringIs(d, 3, 5);
        d.hang(10, Check.NONE, 0);
        c.due("a STOP that hangs on none", d.hang(3, 5, 0), 1);
        c.due("RING", d.hang(10, 3, 0), Check.RING);
        c.ringIs(d, 3, 5);
        d.stop(10, 0, true);
        c.due("hang", d.hang(10, 3, 0), 1);
        c.due("RING", d.stop(10, 1 << 5 | 1 << 1, true), Check.RING);
        c.ringIs(d, 3, 5);
        c.due("no other is ON by what was refused", d.stop(10, 1 << 1, false), 1);
    }

    private static void ringGoesOverEmptyPlaces() {
        LadderDesk d = hangers();
        d.make(10, Check.STOP, 1, 0);
        d.hang(10, 3, 0);
        d.empty(5);
        c.due("a PLACE that holds nothing", d.stop(10, 1 << 5, true), 1);
        d.hang(1, 5, 0);
        c.due("nothing to hang on", d.hang(1, 5, 0), Check.MISSING);
        d.make(5, Check.PLAIN, 1, 0);
        d.hang(3, 5, 0);
        c.due("RING", d.hang(3, 5, 0), Check.RING);
        c.ringIs(d, 3, 5);
        d.hang(10, 4, 0);
        c.due("hang", d.hang(3, 5, 0), 1);
        d.empty(5);
        c.due("over a PLACE that is empty", d.hang(10, 3, 0), Check.RING);
        c.ringIs(d, 3, 5);
        d.note(5, 1L);
        c.due("over a NOTE", d.hang(10, 3, 0), Check.RING);
    }

    private static void ringEndsWithWhatIsGone() {
        LadderDesk d = hangers();
        d.hang(1, 2, 0);
        d.make(1, Check.HANGING, 1, 0);
        c.due("a new SWITCH hangs on none", d.hang(2, 1, 0), 1);
        d.empty(2);
        d.make(2, Check.HANGING, 1, 0);
        c.due("what was emptied hangs on none", d.hang(1, 2, 0), 1);
    }

    private static LadderDesk hangers() {
        LadderDesk d = new LadderDesk();
        for (int p = 0; p < 16; p++) {
            d.make(p, Check.HANGING, 1, 0);
        }
        return d;
    }
}
