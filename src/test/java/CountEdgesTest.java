/** Terms 2 and promises 27 to 31: COUNTS, and what is left of a BUDGET, at their ends. */
public final class CountEdgesTest {
    private static final Check c = new Check();

    public static void main(String[] args) {
        nothingIsToldAtFirst();
        everyMinute();
        rowsAreApart();
        countsAtTheEnds();
        refusedCountLeavesWhatWasTold();
        toldAgain();
        goodsUpToTheCalls();
        rowsGoAndCome();
        countTellsTheSeats();
        leftIsCut();
        leftAtTheEnds();
        leftOfNoCalls();
        leftBelowZeroIsNoRefusal();
        c.end();
    }

    private static LadderDesk stepped() {
        LadderDesk d = new LadderDesk();
        d.make(0, Check.STEPPED, 1, 0);
        return d;
    }

    private static void toldIs(LadderDesk d, int way, int minute, int... due) {
        for (int what = 0; what < 3; what++) {
            c.due("WAY " + way + " at " + minute + ": " + what, d.told(0, way, minute, what), due[what]);
        }
    }

    private static void nothingIsToldAtFirst() {
        for (int way = 0; way < 4; way++) {
            LadderDesk d = stepped();
            for (int m = 0; m < 240; m++) {
                c.due("told", d.told(0, way, m, 0), Check.UNTOLD);
                c.due("goods", d.goods(0, way, m, 0), Check.UNTOLD);
            }
        }
    }

    private static void everyMinute() {
        for (int way = 0; way < 4; way++) {
            LadderDesk d = stepped();
            for (int m = 239; m >= 0; m--) {
                c.due("count", d.count(0, way, m, 1000 + m, m), 0);
            }
            for (int m = 0; m < 240; m++) {
                c.due("CALLS", d.told(0, way, m, 0), 1000 + m);
            }
        }
        LadderDesk d = stepped();
        for (int m = 0; m < 240; m += 2) {
            d.count(0, 0, m, 5, 0);
        }
        for (int m = 0; m < 240; m++) {
            c.due("every other one", d.told(0, 0, m, 0), m % 2 == 0 ? 5 : Check.UNTOLD);
        }
    }

    private static void rowsAreApart() {
        LadderDesk d = stepped();
        d.make(1, Check.STEPPED, 1, 0);
        for (int way = 0; way < 4; way++) {
            d.count(0, way, 0, 10 + way, way);
            d.goods(0, way, 0, 5 + way);
            d.count(0, way, 239, 20 + way, way);
        }
        for (int way = 0; way < 4; way++) {
            toldIs(d, way, 0, 10 + way, way, 5 + way);
            toldIs(d, way, 239, 20 + way, way, 0);
            c.due("another PLACE", d.told(1, way, 0, 0), Check.UNTOLD);
            c.due("a MINUTE between", d.told(0, way, 238, 0), Check.UNTOLD);
            c.due("a MINUTE between", d.told(0, way, 1, 0), Check.UNTOLD);
        }
    }

    private static void countsAtTheEnds() {
        int[][] taken = {{0, 0}, {1, 0}, {1, 1}, {999999, 999999}, {1000000, 0}, {1000000, 1000000}};
        int[][] refused = {{0, 1}, {1, 2}, {1, -1}, {0, -1}, {-1, -1}, {-1, -2}, {-1, 0}, {1000000, 1000001}, {1000001, 0},
            {1000001, 1000001}, {Check.LEAST, Check.LEAST}, {Check.MOST, Check.MOST}, {Check.MOST, 0}, {Check.LEAST, 0},
            {5, Check.LEAST}, {5, Check.MOST}};
        for (int way = 0; way < 4; way++) {
            LadderDesk d = stepped();
            for (int[] n : taken) {
                c.due("CALLS " + n[0] + ", FAULTS " + n[1], d.count(0, way, 0, n[0], n[1]), 0);
                toldIs(d, way, 0, n[0], n[1], 0);
            }
            for (int[] n : refused) {
                c.due("CALLS " + n[0] + ", FAULTS " + n[1], d.count(0, way, 0, n[0], n[1]), Check.NO);
                c.due("CALLS " + n[0] + ", FAULTS " + n[1], d.count(0, way, 1, n[0], n[1]), Check.NO);
            }
            toldIs(d, way, 0, 1000000, 1000000, 0);
            c.due("not told by what was refused", d.told(0, way, 1, 0), Check.UNTOLD);
        }
    }

    private static void refusedCountLeavesWhatWasTold() {
        LadderDesk d = stepped();
        d.count(0, 1, 5, 9, 8);
        d.goods(0, 1, 5, 7);
        c.due("count", d.count(0, 1, 5, 9, 10), Check.NO);
        c.due("goods", d.goods(0, 1, 5, 10), Check.NO);
        c.due("goods", d.goods(0, 1, 5, -1), Check.NO);
        toldIs(d, 1, 5, 9, 8, 7);
    }

    private static void toldAgain() {
        LadderDesk d = stepped();
        d.count(0, 1, 5, 9, 8);
        d.goods(0, 1, 5, 9);
        d.count(0, 1, 5, 9, 8);
        toldIs(d, 1, 5, 9, 8, 0);
        d.count(0, 1, 5, 0, 0);
        toldIs(d, 1, 5, 0, 0, 0);
    }

    private static void goodsUpToTheCalls() {
        for (int calls : new int[] {0, 1, 7, 1000000}) {
            LadderDesk d = stepped();
            d.count(0, 3, 239, calls, calls);
            c.due("none", d.goods(0, 3, 239, 0), 1);
            c.due("all", d.goods(0, 3, 239, calls), 1);
            for (int goods : Check.beyond(0, calls)) {
                c.due("of " + calls + ": " + goods, d.goods(0, 3, 239, goods), Check.NO);
            }
            toldIs(d, 3, 239, calls, calls, calls);
        }
    }

    private static void rowsGoAndCome() {
        for (int way = 0; way < 4; way++) {
            LadderDesk d = stepped();
            d.count(0, way, 0, 3, 1);
            d.count(0, way, 239, 4, 1);
            c.due("it was there", d.counts(0, way, false), 1);
            c.due("it was not", d.counts(0, way, false), 0);
            c.due("count", d.count(0, way, 0, 3, 1), Check.MISSING);
            c.due("goods", d.goods(0, way, 0, 0), Check.MISSING);
            c.due("told", d.told(0, way, 0, 0), Check.MISSING);
            c.due("told", d.told(0, way, 0, 9), Check.MISSING);
            c.due("left", d.left(0, 0), way == 1 ? Check.MISSING : Check.UNTOLD);
            c.due("another WAY's is there", d.told(0, (way + 1) % 4, 0, 0), Check.UNTOLD);
            c.due("it was not", d.counts(0, way, true), 0);
            c.due("none told", d.told(0, way, 0, 0), Check.UNTOLD);
            c.due("none told", d.told(0, way, 239, 0), Check.UNTOLD);
            d.count(0, way, 239, 5, 0);
            c.due("one is told", d.told(0, way, 239, 0), 5);
            c.due("those ahead of it are not", d.told(0, way, 0, 0), Check.UNTOLD);
            c.due("it was there", d.counts(0, way, true), 1);
            c.due("none told", d.told(0, way, 239, 0), Check.UNTOLD);
        }
    }

    private static void countTellsTheSeats() {
        LadderDesk d = Check.ofEachKind();
        for (int p = 0; p < 5; p++) {
            c.due("none", d.count(p, 0, 0, 1, 0), 0);
            d.share(p, 1, 0, 10000);
            c.due("all", d.count(p, 3, 239, 1, 1), 10000);
            c.due("of another KIND than STEPPED, or on NONE", d.count(p, 1, 239, 1, 1), 10000);
        }
    }

    /** PART, CALLS, FAULTS, left. */
    private static void leftIsCut() {
        int[][] cases = {{1, 9999, 0, 0}, {1, 10000, 0, 1}, {1, 19999, 0, 1}, {1, 20000, 0, 2}, {3333, 3, 0, 0}, {3334, 3, 0, 1},
            {9999, 10000, 9999, 0}, {5000, 3, 1, 0}, {5000, 3, 2, -1}, {5000, 3, 3, -2}, {0, 9, 0, 0}, {0, 9, 9, -9},
            {10000, 9, 0, 9}, {10000, 9, 9, 0}, {9999, 1, 1, -1}};
        for (int[] n : cases) {
            LadderDesk d = stepped();
            d.budget(0, 1, 1000000, n[0], true);
            d.count(0, 1, 0, n[1], n[2]);
            c.due("PART " + n[0] + " of " + n[1] + " less " + n[2], d.left(0, 0), n[3]);
        }
    }

    private static void leftAtTheEnds() {
        LadderDesk d = stepped();
        for (int m = 180; m < 240; m++) {
            d.count(0, 1, m, 1000000, 1000000);
        }
        d.budget(0, 60, 0, 0, false);
        c.due("the least", d.left(0, 239), -60000000);
        d.budget(0, 60, 0, 9999, false);
        c.due("just below 0", d.left(0, 239), -6000);
        d.budget(0, 60, 0, 10000, false);
        c.due("none", d.left(0, 239), 0);
        for (int m = 180; m < 240; m++) {
            d.count(0, 1, m, 1000000, 0);
        }
        c.due("the most", d.left(0, 239), 60000000);
        c.due("one is not told", d.left(0, 238), Check.UNTOLD);
        d.budget(0, 59, 0, 10000, false);
        c.due("a shorter WINDOW", d.left(0, 238), 59000000);
    }

    private static void leftOfNoCalls() {
        LadderDesk d = stepped();
        c.due("not told", d.left(0, 0), Check.UNTOLD);
        d.count(0, 1, 0, 0, 0);
        c.due("no CALLS", d.left(0, 0), 0);
        d.budget(0, 60, 1000000, 0, false);
        c.due("no CALLS", d.left(0, 0), 0);
    }

    private static void leftBelowZeroIsNoRefusal() {
        LadderDesk d = stepped();
        d.budget(0, 1, 0, 0, false);
        for (int faults = 1; faults <= 14; faults++) {
            d.count(0, 1, 0, 14, faults);
            c.due("left", d.left(0, 0), -faults);
        }
        for (int by = -13; by <= -2; by++) {
            c.due("none was refused", d.status(by), 0);
        }
    }
}
