/** Terms 2 and promises 22, 25 to 27: WINDOWS, ENOUGH, PARTS and WAITS, and what comes of them, at their ends. */
public final class BudgetEdgesTest {
    private static final Check c = new Check();

    public static void main(String[] args) {
        budgetAtFirst();
        windowsAsked();
        windowsTold();
        enoughCalls();
        enoughAtItsMost();
        partsOfFaults();
        partsAtTheirEnds();
        sumsBeyondAnInt();
        noCallsAreNeverSpent();
        growsWithoutTelling();
        refusalsOneByOne();
        spentOnlyAtTheMinuteTold();
        spentByWayOneAlone();
        notSpentOnNone();
        goesBackOneStep();
        goesBackToNone();
        goesToNoneWithoutARow();
        waitsToTheMinute();
        waitsAtTheEnds();
        waitsAnew();
        waitIsKept();
        timesAreCounted();
        c.end();
    }

    /** It STANDS on STEP stands of five: 10, 20, 30, 40, 50 SEATS. Nothing is told. */
    private static LadderDesk climbed(int kind, int stands) {
        LadderDesk d = new LadderDesk();
        d.make(0, kind, 1, 0);
        Desks.lay(d, 0, 10, 20, 30, 40, 50);
        d.count(0, 1, 0, 0, 0);
        for (int i = 0; i <= stands; i++) {
            d.grow(0, 0);
        }
        d.counts(0, 1, true);
        return d;
    }

    private static LadderDesk climbed() {
        return climbed(Check.STEPPED, 2);
    }

    private static void budgetAtFirst() {
        LadderDesk d = climbed();
        c.due("PART 10000: all may be FAULTS", d.count(0, 1, 9, 1000000, 1000000), 30);
        c.due("WINDOW 1: no other MINUTE is asked", d.grow(0, 9), 40);
        c.due("ENOUGH 0", d.count(0, 1, 20, 0, 0), 40);
        c.due("ENOUGH 0", d.grow(0, 20), 50);
        c.due("WAIT 0", d.waits(0, 0), 0);
        c.due("it does not wait", d.stands(0, 2), 0);
    }

    /** WINDOW, MINUTE: each MINUTE of the WINDOW is asked for, the one ahead of it is not. */
    private static void windowsAsked() {
        int[][] cases = {{1, 0}, {1, 239}, {2, 0}, {2, 1}, {3, 1}, {3, 2}, {3, 3}, {60, 0}, {60, 58}, {60, 59}, {60, 60},
            {60, 61}, {60, 239}};
        for (int[] n : cases) {
            int first = Math.max(0, n[1] - n[0] + 1);
            windowIs(n[0], first, n[1], -1, 0);
            windowIs(n[0], first, n[1], first, Check.UNTOLD);
            windowIs(n[0], first, n[1], n[1], Check.UNTOLD);
            windowIs(n[0], first, n[1], (first + n[1]) / 2, Check.UNTOLD);
        }
    }

    /** Just the MINUTES first .. m are told, but for one. */
    private static void windowIs(int window, int first, int m, int butFor, int due) {
        LadderDesk d = climbed();
        d.budget(0, window, 0, 5000, false);
        for (int i = first; i <= m; i++) {
            if (i != butFor) {
                d.count(0, 1, i, 2, 0);
            }
        }
        String which = "WINDOW " + window + " at " + m + " without " + butFor;
        c.due(which, d.left(0, m), due == 0 ? m - first + 1 : due);
        c.due(which, d.grow(0, m), due == 0 ? 40 : due);
    }

    private static void windowsTold() {
        LadderDesk d = climbed();
        d.budget(0, 60, 0, 10000, false);
        for (int m = 0; m < 240; m++) {
            d.count(0, 1, m, m, 0);
        }
        for (int m = 0; m < 240; m++) {
            int sum = 0;
            for (int i = Math.max(0, m - 59); i <= m; i++) {
                sum += i;
            }
            c.due("CALLS at " + m, d.left(0, m), sum);
        }
    }

    private static void enoughCalls() {
        for (int enough : new int[] {1, 2, 100}) {
            LadderDesk d = climbed();
            d.budget(0, 2, enough, 0, false);
            d.count(0, 1, 0, enough - 1, 0);
            d.count(0, 1, 1, 0, 0);
            c.due("one too few", d.grow(0, 1), Check.FEW);
            d.count(0, 1, 1, 1, 0);
            c.due("just ENOUGH", d.grow(0, 1), 40);
            d = climbed();
            d.budget(0, 2, enough, 0, false);
            d.count(0, 1, 0, enough - 1, enough - 1);
            c.due("not SPENT: one too few", d.count(0, 1, 1, 0, 0), 30);
            c.due("few go ahead of over", d.grow(0, 1), Check.FEW);
            c.due("SPENT: just ENOUGH", d.count(0, 1, 1, 1, 1), 20);
        }
    }

    private static void enoughAtItsMost() {
        LadderDesk d = climbed();
        d.budget(0, 1, 1000000, 0, true);
        c.due("one too few", d.count(0, 1, 0, 999999, 999999), 30);
        c.due("one too few", d.grow(0, 0), Check.FEW);
        c.due("just ENOUGH", d.count(0, 1, 0, 1000000, 0), 30);
        c.due("just ENOUGH", d.grow(0, 0), 40);
        c.due("just ENOUGH", d.count(0, 1, 0, 1000000, 1), 0);
    }

    /** PART, CALLS, FAULTS that are not above it; one more is. */
    private static void partsOfFaults() {
        int[][] cases = {{5000, 2, 1}, {5000, 3, 1}, {1, 10000, 1}, {1, 9999, 0}, {9999, 10000, 9999}, {9999, 9999, 9998},
            {3333, 3, 0}, {3334, 3, 1}, {0, 1, 0}, {9999, 1, 0}, {9999, 1000000, 999900}};
        for (int[] n : cases) {
            LadderDesk d = climbed();
            d.budget(0, 1, 0, n[0], false);
            String which = "PART " + n[0] + " of " + n[1];
            c.due(which, d.count(0, 1, 7, n[1], n[2]), 30);
            c.due(which, d.left(0, 7), 0);
            c.due(which, d.grow(0, 7), 40);
            c.due(which + ", one more", d.count(0, 1, 7, n[1], n[2] + 1), 30);
            c.due(which + ", one more", d.stands(0, 3), 1);
            c.due(which + ", one more", d.left(0, 7), -1);
            c.due(which + ", one more", d.grow(0, 7), Check.OVER);
        }
    }

    private static void partsAtTheirEnds() {
        LadderDesk d = climbed();
        d.budget(0, 1, 0, 0, false);
        c.due("PART 0, no FAULT", d.count(0, 1, 0, 1000000, 0), 30);
        c.due("PART 0, one FAULT", d.count(0, 1, 0, 1000000, 1), 20);
        d.budget(0, 1, 0, 10000, false);
        c.due("PART 10000, all are FAULTS", d.count(0, 1, 0, 1000000, 1000000), 20);
        c.due("PART 10000, all are FAULTS", d.count(0, 1, 0, 1, 1), 20);
    }

    private static void sumsBeyondAnInt() {
        LadderDesk d = climbed();
        d.budget(0, 60, 0, 5000, false);
        for (int m = 0; m < 59; m++) {
            d.budget(0, 1, 0, 10000, false);
            d.count(0, 1, m, 1000000, 500000);
        }
        d.budget(0, 60, 1000000, 5000, false);
        c.due("just the PART", d.count(0, 1, 59, 1000000, 500000), 30);
        c.due("just the PART", d.left(0, 59), 0);
        c.due("just the PART", d.grow(0, 59), 40);
        c.due("one above it", d.count(0, 1, 59, 1000000, 500001), 30);
        c.due("one above it", d.left(0, 59), -1);
        c.due("one above it", d.grow(0, 59), Check.OVER);
    }

    private static void noCallsAreNeverSpent() {
        LadderDesk d = climbed();
        d.budget(0, 3, 0, 0, true);
        for (int m = 0; m < 5; m++) {
            c.due("no CALLS", d.count(0, 1, m, 0, 0), 30);
            c.due("no CALLS", d.left(0, m), 0);
        }
        c.due("they are ENOUGH, and not OVER", d.grow(0, 4), 40);
        d.budget(0, 3, 1, 0, true);
        c.due("they are FEW", d.grow(0, 4), Check.FEW);
    }

    /** "STANDING on NONE that is not asked, nor what follows but waiting" */
    private static void growsWithoutTelling() {
        LadderDesk d = climbed(Check.STEPPED, -1);
        d.budget(0, 60, 1000000, 0, false);
        c.due("not told, and few", d.grow(0, 239), 10);
        c.due("on a STEP it is asked", d.grow(0, 239), Check.UNTOLD);
        d = climbed(Check.STEPPED, -1);
        d.count(0, 1, 5, 9, 9);
        d.budget(0, 1, 0, 0, false);
        c.due("over", d.grow(0, 5), 10);
        c.due("on a STEP it is asked", d.grow(0, 5), Check.OVER);
        d = climbed(Check.STEPPED, -1);
        d.counts(0, 1, false);
        c.due("the ROW of COUNTS is missing", d.grow(0, 5), 10);
        c.due("on a STEP it is asked for", d.grow(0, 5), Check.UNTOLD);
    }

    private static void refusalsOneByOne() {
        LadderDesk d = climbed();
        d.budget(0, 1, 0, 0, false);
        d.waits(0, 10);
        d.count(0, 1, 100, 1, 1);
        d.share(0, 2, 25, 1);
        c.due("UNTOLD", d.grow(0, 99), Check.UNTOLD);
        d.budget(0, 1, 2, 0, false);
        c.due("FEW", d.grow(0, 100), Check.FEW);
        d.budget(0, 1, 1, 0, false);
        c.due("OVER", d.grow(0, 100), Check.OVER);
        d.budget(0, 1, 1, 10000, false);
        c.due("WAITING", d.grow(0, 100), Check.WAITING);
        d.count(0, 1, 111, 1, 0);
        c.due("NO", d.grow(0, 111), Check.NO);
        d.share(0, 2, 30, 1);
        c.due("taken", d.grow(0, 111), 30);
    }

    private static void spentOnlyAtTheMinuteTold() {
        LadderDesk d = climbed();
        d.budget(0, 2, 0, 1000, false);
        d.count(0, 1, 5, 100, 0);
        c.due("5 is SPENT by that, but 4 is told: 3 is not", d.count(0, 1, 4, 100, 100), 30);
        c.due("over", d.grow(0, 5), Check.OVER);
        c.due("not SPENT at 3: 2 is not told", d.count(0, 1, 3, 100, 0), 30);
        c.due("told again, SPENT at 5", d.count(0, 1, 5, 100, 0), 20);
        c.due("waits", d.stands(0, 2), 6);
    }

    private static void spentByWayOneAlone() {
        LadderDesk d = climbed();
        d.budget(0, 1, 0, 0, true);
        for (int way : new int[] {0, 2, 3}) {
            c.due("WAY " + way, d.count(0, way, 0, 10, 10), 30);
        }
        d.budget(0, 1, 0, 10000, true);
        d.count(0, 1, 0, 10, 10);
        d.budget(0, 1, 0, 0, true);
        c.due("WAY 1 is SPENT, but another is told", d.count(0, 2, 0, 10, 10), 30);
        c.due("goods", d.goods(0, 1, 0, 0), 1);
        c.due("GOODS take nothing BACK", d.stands(0, 0), 2);
        c.due("WAY 1", d.count(0, 1, 0, 10, 10), 0);
    }

    private static void notSpentOnNone() {
        LadderDesk d = climbed(Check.STEPPED, -1);
        d.budget(0, 1, 0, 0, true);
        d.share(0, 1, 3, 4);
        c.due("on NONE", d.count(0, 1, 0, 10, 10), 4);
        c.due("it does not wait", d.stands(0, 2), 0);
        c.due("no budget took it", d.stands(0, 3), 0);
        c.due("of another KIND", plainCount(), 5);
    }

    private static int plainCount() {
        LadderDesk d = new LadderDesk();
        d.make(0, Check.PLAIN, 1, 0);
        d.share(0, 1, 0, 5);
        return d.count(0, 1, 0, 10, 10);
    }

    private static void goesBackOneStep() {
        for (int kind : new int[] {Check.STEPPED, Check.TRIAL}) {
            LadderDesk d = climbed(kind, 4);
            d.budget(0, 1, 0, 0, false);
            for (int stands = 3; stands >= -1; stands--) {
                c.due("SEATS", d.count(0, 1, 9, 1, 1), 10 * (stands + 1));
                c.due("STANDS", d.stands(0, 0), stands);
                c.due("SEATS", d.shares(0, 1, 1), 10 * (stands + 1));
            }
            c.due("on NONE", d.count(0, 1, 9, 1, 1), 0);
            c.due("five times", d.stands(0, 3), 5);
        }
    }

    private static void goesBackToNone() {
        for (int stands = 0; stands < 5; stands++) {
            LadderDesk d = climbed(Check.TRIAL, stands);
            d.budget(0, 1, 0, 0, true);
            c.due("to NONE", d.count(0, 1, 9, 1, 1), 0);
            c.due("STANDS", d.stands(0, 0), Check.NONE);
            c.due("once", d.stands(0, 3), 1);
            c.due("the ROW is there", d.stands(0, 1), 5);
        }
    }

    private static void goesToNoneWithoutARow() {
        for (int stands = 0; stands < 5; stands++) {
            LadderDesk d = climbed(Check.STEPPED, stands);
            d.budget(0, 1, 0, 0, false);
            d.tear(0);
            c.due("to NONE", d.count(0, 1, 9, 1, 1), 0);
            c.due("STANDS", d.stands(0, 0), Check.NONE);
            c.due("once", d.stands(0, 3), 1);
            c.due("waits", d.stands(0, 2), 10);
            c.due("a ROW again", d.row(0, 1), 1);
        }
    }

    /** MINUTE, WAIT: it waits to m + WAIT + 1, and grows then, but not before. */
    private static void waitsToTheMinute() {
        int[][] cases = {{0, 0}, {0, 1}, {5, 0}, {5, 7}, {100, 100}, {138, 100}, {238, 0}};
        for (int[] n : cases) {
            for (boolean toNone : new boolean[] {true, false}) {
                LadderDesk d = climbed();
                d.budget(0, 1, 0, 0, toNone);
                d.waits(0, n[1]);
                d.count(0, 1, n[0], 1, 1);
                int to = n[0] + n[1] + 1;
                c.due("waits", d.stands(0, 2), to);
                d.budget(0, 1, 0, 10000, toNone);
                d.count(0, 1, to - 1, 1, 0);
                c.due("just below", d.grow(0, to - 1), Check.WAITING);
                d.count(0, 1, to, 1, 0);
                c.due("just there", d.grow(0, to), toNone ? 10 : 30);
                c.due("growing leaves it", d.stands(0, 2), to);
            }
        }
    }

    private static void waitsAtTheEnds() {
        LadderDesk d = climbed();
        d.budget(0, 1, 0, 0, true);
        d.waits(0, 100);
        d.count(0, 1, 239, 1, 1);
        c.due("the latest that there is", d.stands(0, 2), 340);
        c.due("no MINUTE comes to it", d.grow(0, 239), Check.WAITING);
        c.due("no MINUTE comes to it", d.grow(0, 0), Check.WAITING);
        d = climbed();
        d.budget(0, 1, 0, 0, true);
        d.count(0, 1, 239, 1, 1);
        c.due("WAIT 0", d.stands(0, 2), 240);
        c.due("no MINUTE comes to it", d.grow(0, 239), Check.WAITING);
        d = climbed();
        d.budget(0, 1, 0, 0, true);
        d.count(0, 1, 0, 1, 1);
        c.due("the earliest that there is", d.stands(0, 2), 1);
        c.due("below", d.grow(0, 0), Check.WAITING);
        c.due("there", d.grow(0, 1), 10);
    }

    private static void waitsAnew() {
        LadderDesk d = climbed();
        d.budget(0, 1, 0, 0, false);
        d.waits(0, 50);
        d.count(0, 1, 100, 1, 1);
        c.due("waits", d.stands(0, 2), 151);
        d.count(0, 1, 20, 1, 1);
        c.due("an earlier MINUTE is told", d.stands(0, 2), 71);
        d.count(0, 1, 21, 1, 0);
        c.due("not SPENT", d.stands(0, 2), 71);
        d.waits(0, 0);
        c.due("another WAIT", d.stands(0, 2), 71);
        d.count(0, 1, 20, 1, 1);
        c.due("by that WAIT", d.stands(0, 2), 21);
    }

    private static void waitIsKept() {
        LadderDesk d = climbed();
        int was = 0;
        for (int wait : new int[] {100, 0, 99, 1, 100}) {
            c.due("what it was", d.waits(0, wait), was);
            was = wait;
        }
        for (int wait : Check.beyond(0, 100)) {
            c.due("wait " + wait, d.waits(0, wait), Check.NO);
        }
        d.budget(0, 60, 5, 5, true);
        c.due("it is as it was", d.waits(0, 0), 100);
    }

    private static void timesAreCounted() {
        LadderDesk d = climbed();
        d.budget(0, 1, 0, 0, true);
        for (int i = 1; i <= 20; i++) {
            d.count(0, 1, i, 1, 1);
            c.due("how often", d.stands(0, 3), i);
            c.due("grow", d.grow(0, i + 1), 10);
        }
        d.back(0);
        c.due("back() is no budget", d.stands(0, 3), 20);
    }
}
