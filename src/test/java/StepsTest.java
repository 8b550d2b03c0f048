/** Promises 18 to 26. */
public final class StepsTest {
    private static final Check c = new Check();

    public static void main(String[] args) {
        rows();
        steps();
        stepsBehindWhichItStands();
        copies();
        copiesOverItself();
        copiesAreRefused();
        growing();
        growingAsksInOrder();
        growingOnNoneAsksOnlyForWaiting();
        growingOverOthers();
        goingBack();
        stands();
        budgets();
        waits();
        spentGoesBack();
        spentGoesToNone();
        spentWithoutARow();
        spentAtTheEdge();
        toldAgainGoesBackAgain();
        onlyKindsThatStep();
        c.end();
    }

    private static void rows() {
        LadderDesk d = Check.ofEachKind();
        c.due("least", d.row(1, 1), 1);
        c.due("STEPS", d.stands(1, 1), 1);
        c.due("most", d.row(1, 20), 1);
        c.due("STEPS", d.stands(1, 1), 20);
        c.due("a TRIAL", d.row(2, 5), 1);
        d.step(1, 19, 77);
        c.due("anew", d.row(1, 20), 1);
        c.due("all are 0", d.step(1, 19, 0), 0);
        for (int n : new int[] {0, 21, Check.MOST}) {
            c.due("n " + n, d.row(1, n), Check.NO);
        }
        for (int n : new int[] {-1, Check.LEAST}) {
            c.due("n " + n, d.row(1, n), Check.BELOW);
        }
        d.grow(1, 0);
        c.due("it STANDS on a STEP", d.row(1, 5), Check.NO);
        c.due("n goes ahead", d.row(1, -5), Check.BELOW);
        c.due("tear", d.tear(1), 1);
        c.due("tear", d.tear(1), 0);
        c.due("STEPS", d.stands(1, 1), Check.NONE);
        c.due("it STANDS still", d.stands(1, 0), 0);
        c.due("it STANDS still", d.row(1, 5), Check.NO);
        d.back(1);
        c.due("row", d.row(1, 5), 1);
    }

    private static void steps() {
        LadderDesk d = Check.ofEachKind();
        c.due("no ROW", d.step(1, 99, -1), Check.MISSING);
        d.row(1, 3);
        c.due("step", d.step(1, 2, 10000), 0);
        c.due("step", d.step(1, 2, 0), 10000);
        for (int i : new int[] {-1, 3, 20, Check.LEAST, Check.MOST}) {
            c.due("STEP " + i, d.step(1, i, -1), Check.BEYOND);
        }
        for (int v : new int[] {-1, 10001, Check.LEAST, Check.MOST}) {
            c.due("v " + v, d.step(1, 0, v), Check.NO);
        }
        c.due("nothing was changed", d.step(1, 0, 1), 0);
        c.due("place", d.step(16, 99, -1), Check.BEYOND);
        c.due("nothing there", d.step(6, 99, -1), Check.MISSING);
        c.due("NOTE", d.step(5, 99, -1), Check.KIND);
    }

    private static void stepsBehindWhichItStands() {
        LadderDesk d = Desks.ladder(0, 0, 0);
        d.grow(0, 0);
        d.count(0, 1, 0, 0, 0);
        d.grow(0, 0);
        c.due("ahead of that on which it STANDS", d.step(0, 0, 0), Check.NO);
        c.due("on which it STANDS", d.step(0, 1, 0), Check.NO);
        c.due("the next one", d.step(0, 2, 5), 0);
    }

    private static void copies() {
        LadderDesk d = Desks.ladder(1, 2, 3, 4);
        d.make(1, Check.TRIAL, 1, 0);
        d.row(1, 3);
        c.due("copy", d.copy(0, 1, 1, 0, 3), 3);
        stepsAre(d, 1, 2, 3, 4);
        c.due("one", d.copy(0, 0, 1, 2, 1), 1);
        stepsAre(d, 1, 2, 3, 1);
        stepsAre(d, 0, 1, 2, 3, 4);
        c.due("none", d.copy(0, 4, 1, 3, 0), 0);
        c.due("none", d.copy(0, 0, 1, 0, 0), 0);
        stepsAre(d, 1, 2, 3, 1);
        d.grow(0, 0);
        c.due("the first one STANDS", d.copy(0, 3, 1, 0, 1), 1);
        stepsAre(d, 1, 4, 3, 1);
    }

    private static void copiesOverItself() {
        LadderDesk d = Desks.ladder(1, 2, 3, 4, 5);
        c.due("ahead", d.copy(0, 0, 0, 1, 4), 4);
        stepsAre(d, 0, 1, 1, 2, 3, 4);
        d = Desks.ladder(1, 2, 3, 4, 5);
        c.due("back", d.copy(0, 1, 0, 0, 4), 4);
        stepsAre(d, 0, 2, 3, 4, 5, 5);
    }

    private static void copiesAreRefused() {
        LadderDesk d = Check.ofEachKind();
        c.due("place", d.copy(16, 0, 6, 0, 0), Check.BEYOND);
        c.due("other", d.copy(6, 0, -1, 0, 0), Check.BEYOND);
        c.due("other", d.copy(6, 0, 16, 0, 0), Check.BEYOND);
        c.due("nothing there", d.copy(6, 0, 1, 0, 0), Check.MISSING);
        c.due("nothing there", d.copy(1, 0, 6, 0, 0), Check.MISSING);
        for (int place : new int[] {0, 3, 4, 5}) {
            c.due("MISSING of the other goes ahead of KIND", d.copy(place, 0, 6, 0, 0), Check.MISSING);
            c.due("MISSING goes ahead of KIND of the other", d.copy(6, 0, place, 0, 0), Check.MISSING);
            c.due("KIND goes ahead of the ROW of the other", d.copy(place, 0, 1, 0, 0), Check.KIND);
            c.due("KIND of the other goes ahead of the ROW", d.copy(1, 0, place, 0, 0), Check.KIND);
            c.due("KIND of both", d.copy(place, 0, place, 0, 0), Check.KIND);
        }
        c.due("nothing at both", d.copy(6, 0, 7, 0, 0), Check.MISSING);
        c.due("NOTE", d.copy(5, 0, 1, 0, 0), Check.KIND);
        c.due("NOTE", d.copy(1, 0, 5, 0, 0), Check.KIND);
        c.due("PLAIN", d.copy(1, 0, 0, 0, 0), Check.KIND);
        c.due("HANGING", d.copy(3, 0, 1, 0, 0), Check.KIND);
        c.due("no ROW", d.copy(1, 0, 2, 0, -1), Check.MISSING);
        d.row(1, 4);
        c.due("no ROW", d.copy(1, 0, 2, 0, -1), Check.MISSING);
        c.due("no ROW", d.copy(2, 0, 1, 0, -1), Check.MISSING);
        d.row(2, 2);
        int[][] none = {{0, 0, -1}, {-1, 0, 1}, {0, -1, 1}, {0, 0, 3}, {3, 0, 2}, {0, 1, 2}, {5, 0, 0}, {0, 3, 0},
            {Check.MOST, 0, 1}, {0, Check.MOST, 1}, {1, 1, Check.MOST}, {Check.LEAST, 0, 1}, {0, 0, Check.LEAST},
            {Check.MOST, Check.MOST, Check.MOST}};
        for (int[] n : none) {
            c.due("i " + n[0] + " j " + n[1] + " n " + n[2], d.copy(1, n[0], 2, n[1], n[2]), Check.COPY);
        }
        d.grow(2, 0);
        c.due("the other STANDS", d.copy(1, 0, 2, 0, -1), Check.NO);
        c.due("it STANDS itself", d.copy(2, 0, 2, 0, 0), Check.NO);
    }

    private static void stepsAre(LadderDesk d, int place, int... steps) {
        for (int i = 0; i < steps.length; i++) {
            c.due("STEP " + i, d.step(place, i, steps[i]), steps[i]);
        }
    }

    private static void growing() {
        LadderDesk d = Desks.ladder(10, 10, 10000);
        c.due("to STEP 0", d.grow(0, 239), 10);
        c.due("STANDS", d.stands(0, 0), 0);
        d.count(0, 1, 5, 1, 1);
        c.due("as many", d.grow(0, 5), 10);
        c.due("STANDS", d.stands(0, 0), 1);
        c.due("all", d.grow(0, 5), 10000);
        c.due("SEATS", d.shares(0, 1, 1), 10000);
        c.due("there is no next", d.grow(0, 5), Check.BEYOND);
        c.due("there is no next", d.grow(0, 6), Check.BEYOND);
        d = Desks.ladder(10, 9);
        d.share(0, 1, 500, 11);
        c.due("less than WAY 1 has", d.grow(0, 0), Check.NO);
        d.share(0, 1, 500, 10);
        c.due("not less", d.grow(0, 0), 10);
        c.due("from where it began", d.shares(0, 1, 0), 500);
        d.count(0, 1, 0, 0, 0);
        c.due("less", d.grow(0, 0), Check.NO);
        c.due("STANDS", d.stands(0, 0), 0);
    }

    private static void growingAsksInOrder() {
        LadderDesk d = Desks.ladder(10, 5);
        d.budget(0, 3, 100, 1000, false);
        d.waits(0, 9);
        for (int minute : new int[] {-1, 240, Check.LEAST, Check.MOST}) {
            c.due("minute", d.grow(0, minute), Check.BEYOND);
            c.due("minute", d.grow(6, minute), Check.BEYOND);
        }
        for (int place : new int[] {-1, 16, Check.LEAST, Check.MOST}) {
            c.due("place", d.grow(place, 0), Check.BEYOND);
        }
        d.grow(0, 0);
        c.due("one is not told", d.grow(0, 9), Check.UNTOLD);
        d.count(0, 1, 9, 50, 0);
        d.count(0, 1, 7, 49, 50);
        c.due("one is not told", d.grow(0, 9), Check.UNTOLD);
        d.count(0, 1, 8, 0, 0);
        c.due("one is not told", d.grow(0, 9), Check.UNTOLD);
        d.count(0, 1, 7, 49, 49);
        c.due("few", d.grow(0, 9), Check.FEW);
        d.budget(0, 3, 99, 1000, false);
        c.due("over", d.grow(0, 9), Check.OVER);
        c.due("it STANDS still", d.stands(0, 0), 0);
        d.budget(0, 3, 99, 4949, false);
        c.due("over", d.grow(0, 9), Check.OVER);
        d.budget(0, 3, 99, 4950, false);
        c.due("the STEP is less", d.grow(0, 9), Check.NO);
        c.due("from 0 on", d.grow(0, 1), Check.UNTOLD);
        d.count(0, 1, 0, 99, 0);
        d.step(0, 1, 20);
        c.due("from 0 on", d.grow(0, 0), 20);
        c.due("no next goes ahead of UNTOLD", d.grow(0, 100), Check.BEYOND);
        d.tear(0);
        c.due("the ROW goes ahead of the next", d.grow(0, 100), Check.MISSING);
        d = Desks.ladder(1, 1);
        d.grow(0, 0);
        d.counts(0, 1, false);
        c.due("the ROW of COUNTS is missing", d.grow(0, 0), Check.UNTOLD);
    }

    private static void growingOnNoneAsksOnlyForWaiting() {
        LadderDesk d = Desks.ladder(5, 6);
        d.budget(0, 1, 0, 0, true);
        d.waits(0, 2);
        d.grow(0, 0);
        c.due("spent", d.count(0, 1, 10, 1, 1), 0);
        c.due("to which MINUTE", d.stands(0, 2), 13);
        c.due("it waits", d.grow(0, 12), Check.WAITING);
        d.step(0, 0, 5);
        d.share(0, 1, 0, 6);
        c.due("waiting goes ahead of NO", d.grow(0, 12), Check.WAITING);
        c.due("no more", d.grow(0, 13), Check.NO);
        d.share(0, 1, 0, 0);
        d.counts(0, 1, false);
        c.due("the ROW of COUNTS is not asked for", d.grow(0, 13), 5);
        d.counts(0, 1, true);
        d.count(0, 1, 12, 1, 0);
        c.due("WAITING comes behind the COUNTS", d.grow(0, 12), Check.WAITING);
        c.due("COUNTS go ahead of WAITING", d.grow(0, 11), Check.UNTOLD);
    }

    private static void growingOverOthers() {
        LadderDesk d = Desks.ladder(10, 20, 30);
        d.share(0, 1, 100, 0);
        d.share(0, 2, 120, 1);
        d.count(0, 1, 0, 0, 0);
        c.due("grow", d.grow(0, 0), 10);
        c.due("up to the other", d.grow(0, 0), 20);
        c.due("over the other", d.grow(0, 0), Check.NO);
        c.due("nothing changed", d.shares(0, 1, 1), 20);
        d.share(0, 2, 0, 100);
        c.due("the other is ahead", d.grow(0, 0), 30);
        d = Desks.ladder(1, 2);
        d.share(0, 1, 9999, 0);
        d.count(0, 1, 0, 0, 0);
        c.due("the last SEAT", d.grow(0, 0), 1);
        c.due("beyond", d.grow(0, 0), Check.NO);
    }

    private static void goingBack() {
        LadderDesk d = Desks.ladder(3, 4, 5);
        d.count(0, 1, 0, 0, 0);
        c.due("NONE", d.back(0), Check.NO);
        d.grow(0, 0);
        d.grow(0, 0);
        d.grow(0, 0);
        c.due("to STEP 1", d.back(0), 4);
        c.due("STANDS", d.stands(0, 0), 1);
        d.tear(0);
        c.due("no ROW", d.back(0), Check.MISSING);
        c.due("STANDS", d.stands(0, 0), 1);
        d = Desks.ladder(3, 4);
        d.share(0, 1, 70, 0);
        d.grow(0, 0);
        d.tear(0);
        c.due("to NONE a ROW is not needed", d.back(0), 0);
        c.due("STANDS", d.stands(0, 0), Check.NONE);
        c.due("WAY 1 has none", d.shares(0, 1, 1), 0);
        c.due("where it begins", d.shares(0, 1, 0), 70);
        c.due("on NONE a ROW is not needed", d.back(0), Check.NO);
        c.due("no budget took it", d.stands(0, 3), 0);
        c.due("it does not wait", d.stands(0, 2), 0);
    }

    private static void stands() {
        LadderDesk d = Check.ofEachKind();
        for (int place = 1; place <= 2; place++) {
            c.due("STEP", d.stands(place, 0), Check.NONE);
            c.due("STEPS", d.stands(place, 1), Check.NONE);
            c.due("waits", d.stands(place, 2), 0);
            c.due("taken BACK", d.stands(place, 3), 0);
        }
        for (int what : new int[] {-1, 4, Check.LEAST, Check.MOST}) {
            c.due("what", d.stands(1, what), Check.NO);
            c.due("what", d.stands(0, what), Check.KIND);
            c.due("what", d.stands(6, what), Check.MISSING);
            c.due("what", d.stands(16, what), Check.BEYOND);
        }
        c.due("NONE is no refusal", d.status(Check.NO), 4);
    }

    private static void budgets() {
        LadderDesk d = Check.ofEachKind();
        c.due("least", d.budget(1, 1, 0, 0, true), 1);
        c.due("most", d.budget(2, 60, 1000000, 10000, false), 1);
        int[][] none = {{0, 0, 0}, {61, 0, 0}, {-1, 0, 0}, {1, -1, 0}, {1, 1000001, 0}, {1, 0, -1}, {1, 0, 10001},
            {Check.LEAST, 0, 0}, {1, Check.LEAST, 0}, {1, 0, Check.MOST}};
        for (int[] n : none) {
            c.due("budget", d.budget(1, n[0], n[1], n[2], false), Check.NO);
            c.due("budget", d.budget(0, n[0], n[1], n[2], false), Check.KIND);
            c.due("budget", d.budget(6, n[0], n[1], n[2], false), Check.MISSING);
            c.due("budget", d.budget(16, n[0], n[1], n[2], false), Check.BEYOND);
        }
        d.count(1, 1, 0, 10, 1);
        c.due("the first one holds still", d.left(1, 0), -1);
    }

    private static void waits() {
        LadderDesk d = Check.ofEachKind();
        c.due("at first", d.waits(1, 100), 0);
        c.due("then", d.waits(1, 0), 100);
        d.waits(1, 7);
        d.budget(1, 1, 0, 0, true);
        c.due("a BUDGET does not change it", d.waits(1, 7), 7);
        for (int wait : new int[] {-1, 101, Check.LEAST, Check.MOST}) {
            c.due("wait", d.waits(1, wait), Check.NO);
            c.due("wait", d.waits(0, wait), Check.KIND);
            c.due("wait", d.waits(6, wait), Check.MISSING);
            c.due("wait", d.waits(-1, wait), Check.BEYOND);
        }
        c.due("it stays", d.waits(1, 7), 7);
    }

    private static void spentGoesBack() {
        LadderDesk d = climbed();
        d.budget(0, 2, 20, 1000, false);
        d.waits(0, 100);
        c.due("one MINUTE of two", d.count(0, 1, 101, 50, 50), 30);
        c.due("at 101 it is SPENT, but 102 is told", d.count(0, 1, 103, 50, 0), 30);
        c.due("another WAY", d.count(0, 0, 102, 50, 50), 30);
        c.due("spent", d.count(0, 1, 102, 50, 50), 20);
        c.due("STANDS", d.stands(0, 0), 1);
        c.due("waits", d.stands(0, 2), 203);
        c.due("taken BACK", d.stands(0, 3), 1);
        d.waits(0, 0);
        c.due("what waits is as it was told then", d.stands(0, 2), 203);
        d.budget(0, 1, 20, 1000, false);
        c.due("spent", d.count(0, 1, 9, 50, 50), 10);
        c.due("it waits less", d.stands(0, 2), 10);
        c.due("spent", d.count(0, 1, 239, 50, 50), 0);
        c.due("STANDS", d.stands(0, 0), Check.NONE);
        c.due("waits", d.stands(0, 2), 240);
        c.due("on NONE", d.count(0, 1, 3, 50, 50), 0);
        c.due("taken BACK", d.stands(0, 3), 3);
        c.due("waits", d.stands(0, 2), 240);
        c.due("it waits", d.grow(0, 239), Check.WAITING);
    }

    private static void spentGoesToNone() {
        LadderDesk d = climbed();
        d.budget(0, 1, 0, 0, true);
        c.due("spent", d.count(0, 1, 0, 1, 1), 0);
        c.due("STANDS", d.stands(0, 0), Check.NONE);
        c.due("taken BACK", d.stands(0, 3), 1);
        c.due("waits", d.stands(0, 2), 1);
    }

    private static void spentWithoutARow() {
        LadderDesk d = climbed();
        d.budget(0, 1, 0, 0, false);
        d.tear(0);
        c.due("not spent", d.count(0, 1, 0, 1, 0), 30);
        c.due("spent", d.count(0, 1, 0, 1, 1), 0);
        c.due("STANDS", d.stands(0, 0), Check.NONE);
    }

    private static void spentAtTheEdge() {
        LadderDesk d = climbed();
        d.budget(0, 1, 10000, 1, false);
        c.due("few", d.count(0, 1, 0, 9999, 9999), 30);
        c.due("just the PART", d.count(0, 1, 1, 10000, 1), 30);
        c.due("just above it", d.count(0, 1, 2, 10000, 2), 20);
        d.budget(0, 1, 0, 0, false);
        c.due("no CALLS", d.count(0, 1, 3, 0, 0), 20);
        d.budget(0, 60, 0, 9999, false);
        for (int m = 0; m < 59; m++) {
            d.count(0, 1, m, 1000000, 1000000);
        }
        c.due("it went to NONE by that", d.stands(0, 0), Check.NONE);
        d = climbed();
        d.budget(0, 60, 0, 9999, false);
        for (int m = 100; m < 159; m++) {
            c.due("a WINDOW is not told", d.count(0, 1, m, 1000000, 1000000), 30);
        }
        c.due("beyond an int", d.count(0, 1, 159, 1000000, 994000), 30);
        c.due("beyond an int", d.count(0, 1, 159, 1000000, 994001), 20);
        d = climbed();
        c.due("at first all may be wrong", d.count(0, 1, 0, 5, 5), 30);
    }

    private static void toldAgainGoesBackAgain() {
        LadderDesk d = climbed();
        d.budget(0, 1, 0, 0, false);
        c.due("spent", d.count(0, 1, 0, 1, 1), 20);
        c.due("told again", d.count(0, 1, 0, 1, 1), 10);
        c.due("GOODS take nothing back", d.goods(0, 1, 0, 1), 1);
        c.due("STANDS", d.stands(0, 0), 0);
    }

    /** It STANDS on STEP 2, with 30 SEATS. */
    private static LadderDesk climbed() {
        LadderDesk d = Desks.ladder(10, 20, 30);
        d.count(0, 1, 239, 0, 0);
        d.grow(0, 239);
        d.grow(0, 239);
        d.grow(0, 239);
        return d;
    }

    private static void onlyKindsThatStep() {
        LadderDesk d = Check.ofEachKind();
        for (int place : new int[] {0, 3, 4, 5}) {
            allAnswer(d, place, Check.KIND);
        }
        allAnswer(d, 6, Check.MISSING);
        for (int place : new int[] {-1, 16, Check.LEAST, Check.MOST}) {
            allAnswer(d, place, Check.BEYOND);
        }
    }

    private static void allAnswer(LadderDesk d, int place, int due) {
        c.due("row", d.row(place, -1), due);
        c.due("tear", d.tear(place), due);
        c.due("step", d.step(place, -1, -1), due);
        c.due("copy", d.copy(place, -1, 1, -1, -1), due);
        c.due("copy", d.copy(1, -1, place, -1, -1), due);
        c.due("grow", d.grow(place, 0), due);
        c.due("back", d.back(place), due);
        c.due("stands", d.stands(place, -1), due);
        c.due("budget", d.budget(place, 0, 0, 0, true), due);
        c.due("waits", d.waits(place, -1), due);
    }
}
