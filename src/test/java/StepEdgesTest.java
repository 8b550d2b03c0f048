/** Terms 2 and promises 18 to 24: ROWS of STEPS, and going up and down on them, at their ends. */
public final class StepEdgesTest {
    private static final Check c = new Check();

    public static void main(String[] args) {
        rowsOfEachLength();
        rowLaidAnew();
        tornWhileItStands();
        stepsFromNoneToAll();
        stepsOnWhichItStands();
        copiesOfWholeRows();
        copiesAtTheEnds();
        copiesOverItself();
        copiesOfWhatStands();
        upTwentyStepsAndDown();
        stepsThatDoNotGrow();
        growsFromWhatWasShared();
        growsUpToAnother();
        growsUpToTheLastSeat();
        growsOverAllSeats();
        growsByNothing();
        backWithoutARow();
        backLeavesTheFirstSeat();
        standsOfEachKind();
        c.end();
    }

    /** Its COUNTS at 0 let it GROW. */
    private static LadderDesk ladder(int... steps) {
        LadderDesk d = Desks.ladder(steps);
        d.count(0, 1, 0, 0, 0);
        return d;
    }

    private static void stepsAre(LadderDesk d, int place, int... steps) {
        c.due("how many", d.stands(place, 1), steps.length);
        for (int i = 0; i < steps.length; i++) {
            c.due("STEP " + i, d.step(place, i, steps[i]), steps[i]);
        }
        c.due("no more", d.step(place, steps.length, 0), Check.BEYOND);
    }

    private static void rowsOfEachLength() {
        for (int n = 1; n <= 20; n++) {
            for (int kind : new int[] {Check.STEPPED, Check.TRIAL}) {
                LadderDesk d = new LadderDesk();
                d.make(0, kind, 1, 0);
                c.due("none at first", d.step(0, 0, 0), Check.MISSING);
                c.due("row", d.row(0, n), 1);
                stepsAre(d, 0, new int[n]);
                c.due("below", d.step(0, -1, 0), Check.BEYOND);
            }
        }
    }

    private static void rowLaidAnew() {
        LadderDesk d = ladder(1, 2, 3, 4);
        c.due("shorter", d.row(0, 2), 1);
        stepsAre(d, 0, 0, 0);
        Desks.lay(d, 0, 5, 6);
        c.due("longer", d.row(0, 4), 1);
        stepsAre(d, 0, 0, 0, 0, 0);
        Desks.lay(d, 0, 7, 8, 9);
        for (int n : new int[] {0, -1, 21, Check.MOST, Check.LEAST}) {
            c.due("refused", d.row(0, n), n < 0 ? Check.BELOW : Check.NO);
        }
        stepsAre(d, 0, 7, 8, 9);
        c.due("it was there", d.tear(0), 1);
        c.due("it was not", d.tear(0), 0);
        c.due("how many", d.stands(0, 1), Check.NONE);
        c.due("row", d.row(0, 3), 1);
        stepsAre(d, 0, 0, 0, 0);
    }

    private static void tornWhileItStands() {
        LadderDesk d = ladder(5, 6, 7);
        d.grow(0, 0);
        d.grow(0, 0);
        c.due("tear", d.tear(0), 1);
        c.due("it STANDS still", d.stands(0, 0), 1);
        c.due("WAY 1 has its SEATS", d.shares(0, 1, 1), 6);
        c.due("a new ROW", d.row(0, 3), Check.NO);
        c.due("a new ROW of n below 0", d.row(0, -1), Check.BELOW);
        c.due("step", d.step(0, 2, 0), Check.MISSING);
        c.due("grow", d.grow(0, 0), Check.MISSING);
        c.due("back", d.back(0), Check.MISSING);
        c.due("how many", d.stands(0, 1), Check.NONE);
        c.due("tear", d.tear(0), 0);
    }

    private static void stepsFromNoneToAll() {
        LadderDesk d = ladder(0);
        int was = 0;
        for (int v : new int[] {1, 9999, 10000, 0, 10000}) {
            c.due("what it was", d.step(0, 0, v), was);
            was = v;
        }
        for (int v : Check.beyond(0, 10000)) {
            c.due("v " + v, d.step(0, 0, v), Check.NO);
        }
        c.due("it is as it was", d.step(0, 0, 0), 10000);
    }

    private static void stepsOnWhichItStands() {
        LadderDesk d = ladder(0, 0, 0, 0);
        for (int stands = -1; stands < 4; stands++) {
            for (int i = 0; i < 4; i++) {
                c.due("STANDS on " + stands + ", STEP " + i, d.step(0, i, 0), i > stands ? 0 : Check.NO);
            }
            d.grow(0, 0);
        }
        for (int stands = 3; stands >= -1; stands--) {
            c.due("STANDS", d.stands(0, 0), stands);
            for (int i = 0; i < 4; i++) {
                c.due("STANDS on " + stands + ", STEP " + i, d.step(0, i, 0), i > stands ? 0 : Check.NO);
            }
            d.back(0);
        }
    }

    private static LadderDesk twoLadders() {
        LadderDesk d = ladder(1, 2, 3, 4);
        d.make(1, Check.TRIAL, 1, 0);
        Desks.lay(d, 1, 11, 12, 13);
        return d;
    }

    private static void copiesOfWholeRows() {
        LadderDesk d = new LadderDesk();
        for (int p = 0; p < 2; p++) {
            d.make(p, Check.STEPPED, 1, 0);
            d.row(p, 20);
            for (int i = 0; i < 20; i++) {
                d.step(p, i, 100 * p + i);
            }
        }
        c.due("one too many", d.copy(0, 0, 1, 0, 21), Check.COPY);
        c.due("all twenty", d.copy(0, 0, 1, 0, 20), 20);
        for (int i = 0; i < 20; i++) {
            c.due("STEP " + i, d.step(1, i, 0), i);
        }
        for (int i = 0; i < 20; i++) {
            c.due("the first one's are as they were", d.step(0, i, 0), i);
        }
    }

    /** From 4 STEPS to 3. */
    private static void copiesAtTheEnds() {
        for (int i = -2; i <= 6; i++) {
            for (int j = -2; j <= 5; j++) {
                for (int n = -2; n <= 5; n++) {
                    LadderDesk d = twoLadders();
                    boolean fits = i >= 0 && j >= 0 && n >= 0 && i + n <= 4 && j + n <= 3;
                    c.due("i " + i + " j " + j + " n " + n, d.copy(0, i, 1, j, n), fits ? n : Check.COPY);
                    int[] due = {11, 12, 13};
                    for (int k = 0; fits && k < n; k++) {
                        due[j + k] = 1 + i + k;
                    }
                    stepsAre(d, 1, due);
                    stepsAre(d, 0, 1, 2, 3, 4);
                }
            }
        }
        int[] ends = {Check.LEAST, Check.LEAST + 1, -1, 0, 1, Check.MOST - 1, Check.MOST};
        for (int i : ends) {
            for (int j : ends) {
                for (int n : new int[] {Check.LEAST, Check.LEAST + 1, Check.MOST - 1, Check.MOST}) {
                    c.due("i " + i + " j " + j + " n " + n, twoLadders().copy(0, i, 1, j, n), Check.COPY);
                }
            }
        }
    }

    private static void copiesOverItself() {
        for (int i = 0; i <= 4; i++) {
            for (int j = 0; j <= 4; j++) {
                for (int n = 0; n <= 4 - Math.max(i, j); n++) {
                    LadderDesk d = twoLadders();
                    c.due("copy", d.copy(0, i, 0, j, n), n);
                    int[] due = {1, 2, 3, 4};
                    for (int k = 0; k < n; k++) {
                        due[j + k] = 1 + i + k;
                    }
                    stepsAre(d, 0, due);
                }
            }
        }
    }

    private static void copiesOfWhatStands() {
        LadderDesk d = twoLadders();
        d.grow(0, 0);
        c.due("the first one STANDS", d.copy(0, 0, 1, 0, 1), 1);
        c.due("the other one STANDS", d.copy(1, 0, 0, 3, 1), Check.NO);
        c.due("the other one STANDS, none is copied", d.copy(1, 0, 0, 3, 0), Check.NO);
        c.due("it STANDS itself", d.copy(0, 0, 0, 1, 1), Check.NO);
        c.due("NO goes ahead of COPY", d.copy(1, -1, 0, -1, -1), Check.NO);
        d.back(0);
        c.due("it STANDS on NONE again", d.copy(1, 2, 0, 3, 1), 1);
        stepsAre(d, 0, 1, 2, 3, 13);
    }

    private static void upTwentyStepsAndDown() {
        LadderDesk d = new LadderDesk();
        d.make(0, Check.TRIAL, 1, 0);
        d.count(0, 1, 0, 0, 0);
        d.row(0, 20);
        for (int i = 0; i < 20; i++) {
            d.step(0, i, 500 * (i + 1));
        }
        for (int i = 0; i < 20; i++) {
            c.due("grow", d.grow(0, 0), 500 * (i + 1));
            c.due("STANDS", d.stands(0, 0), i);
            c.due("SEATS", d.shares(0, 1, 1), 500 * (i + 1));
        }
        c.due("there is no next", d.grow(0, 0), Check.BEYOND);
        c.due("STANDS", d.stands(0, 0), 19);
        for (int i = 18; i >= -1; i--) {
            c.due("back", d.back(0), 500 * (i + 1));
            c.due("STANDS", d.stands(0, 0), i);
            c.due("SEATS", d.shares(0, 1, 1), 500 * (i + 1));
        }
        c.due("on NONE", d.back(0), Check.NO);
        c.due("to STEP 0 again", d.grow(0, 0), 500);
    }

    private static void stepsThatDoNotGrow() {
        LadderDesk d = ladder(10, 10, 9);
        c.due("of NONE", d.grow(0, 0), 10);
        c.due("as many", d.grow(0, 0), 10);
        c.due("STANDS", d.stands(0, 0), 1);
        c.due("one less", d.grow(0, 0), Check.NO);
        c.due("STANDS", d.stands(0, 0), 1);
        c.due("SEATS", d.shares(0, 1, 1), 10);
        d.step(0, 2, 11);
        c.due("one more", d.grow(0, 0), 11);
    }

    private static void growsFromWhatWasShared() {
        LadderDesk d = ladder(10);
        d.share(0, 1, 200, 11);
        c.due("one less than it has", d.grow(0, 0), Check.NO);
        c.due("STANDS", d.stands(0, 0), Check.NONE);
        c.due("SEATS", d.shares(0, 1, 1), 11);
        d.share(0, 1, 200, 10);
        c.due("as many", d.grow(0, 0), 10);
        c.due("to NONE", d.back(0), 0);
        c.due("it has none then", d.shares(0, 1, 1), 0);
        c.due("from where it began", d.shares(0, 1, 0), 200);
    }

    private static void growsUpToAnother() {
        for (int way = 2; way <= 7; way++) {
            LadderDesk d = ladder(10, 11);
            d.share(0, 1, 100, 0);
            d.share(0, way, 110, 1);
            c.due("up to the other", d.grow(0, 0), 10);
            c.due("over its only SEAT", d.grow(0, 0), Check.NO);
            c.due("STANDS", d.stands(0, 0), 0);
            c.due("SEATS", d.shares(0, 1, 1), 10);
            d.share(0, way, 99, 1);
            c.due("the other is just ahead", d.grow(0, 0), 11);
        }
        LadderDesk d = ladder(0, 1);
        d.share(0, 2, 100, 50);
        d.share(0, 1, 149, 0);
        c.due("0 SEATS go over none", d.grow(0, 0), 0);
        c.due("one does", d.grow(0, 0), Check.NO);
        d.share(0, 2, 100, 0);
        c.due("the other has none", d.grow(0, 0), 1);
    }

    private static void growsUpToTheLastSeat() {
        LadderDesk d = ladder(1, 2);
        d.share(0, 1, 9999, 0);
        c.due("SEAT 9999", d.grow(0, 0), 1);
        c.due("beyond it", d.grow(0, 0), Check.NO);
        c.due("STANDS", d.stands(0, 0), 0);
        d = ladder(9999, 10000);
        d.share(0, 1, 1, 0);
        c.due("all but one", d.grow(0, 0), 9999);
        c.due("beyond it", d.grow(0, 0), Check.NO);
    }

    private static void growsOverAllSeats() {
        LadderDesk d = ladder(10000, 10000);
        c.due("all", d.grow(0, 0), 10000);
        c.due("all", d.grow(0, 0), 10000);
        d.caller(9999, 0, 0, 0);
        c.due("the last SEAT", d.way(0), 1);
        c.due("another WAY has no room", d.share(0, 2, 9999, 1), Check.NO);
        c.due("but for none", d.share(0, 2, 9999, 0), 0);
    }

    private static void growsByNothing() {
        LadderDesk d = ladder(0, 0);
        c.due("0 SEATS", d.grow(0, 0), 0);
        c.due("it STANDS on a STEP", d.stands(0, 0), 0);
        c.due("row", d.row(0, 1), Check.NO);
        c.due("share", d.share(0, 1, 0, 0), Check.NO);
        c.due("0 SEATS", d.grow(0, 0), 0);
        c.due("it STANDS on the next", d.stands(0, 0), 1);
        c.due("back", d.back(0), 0);
        c.due("back", d.back(0), 0);
        c.due("back", d.back(0), Check.NO);
    }

    private static void backWithoutARow() {
        LadderDesk d = ladder(3, 4);
        d.grow(0, 0);
        d.grow(0, 0);
        d.tear(0);
        c.due("to STEP 0 a ROW is asked for", d.back(0), Check.MISSING);
        c.due("STANDS", d.stands(0, 0), 1);
        c.due("SEATS", d.shares(0, 1, 1), 4);
        d = ladder(3, 4);
        d.grow(0, 0);
        d.tear(0);
        c.due("to NONE it is not", d.back(0), 0);
        c.due("STANDS", d.stands(0, 0), Check.NONE);
        c.due("on NONE it is not", d.back(0), Check.NO);
        c.due("a ROW again", d.row(0, 1), 1);
    }

    private static void backLeavesTheFirstSeat() {
        LadderDesk d = ladder(3, 4);
        d.share(0, 1, 700, 2);
        d.grow(0, 0);
        d.grow(0, 0);
        for (int due : new int[] {3, 0}) {
            c.due("back", d.back(0), due);
            c.due("first SEAT", d.shares(0, 1, 0), 700);
        }
        c.due("no budget took it", d.stands(0, 3), 0);
        c.due("it does not wait", d.stands(0, 2), 0);
        c.due("grow", d.grow(0, 0), 3);
        c.due("first SEAT", d.shares(0, 1, 0), 700);
    }

    private static void standsOfEachKind() {
        LadderDesk d = Check.ofEachKind();
        for (int what = 0; what < 4; what++) {
            int due = what < 2 ? Check.NONE : 0;
            c.due("STEPPED", d.stands(1, what), due);
            c.due("a TRIAL is STEPPED, too", d.stands(2, what), due);
            c.due("PLAIN", d.stands(0, what), Check.KIND);
            c.due("HANGING", d.stands(3, what), Check.KIND);
            c.due("STOP", d.stands(4, what), Check.KIND);
        }
        d.row(1, 1);
        c.due("it has a STEP, but STANDS on NONE", d.stands(1, 0), Check.NONE);
    }
}
