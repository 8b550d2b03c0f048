/** Terms 3 and promises 32 to 34: TRIALS and LOOKS at their ends. */
public final class TrialEdgesTest {
    private static final Check c = new Check();

    public static void main(String[] args) {
        trialAtFirst();
        everyPairOfWays();
        minutesOfALook();
        minutesToldOfOneOnly();
        callsUpToThirty();
        untoldGoesAheadOfFull();
        manyCallsAreFull();
        looksUpToTwenty();
        endsAtThePart();
        endsByTheOneThatIsBetter();
        farAsSeenCounts();
        chancesAtTheirEnds();
        refusedLookIsNone();
        endedUntilAnew();
        refusedTrialLeavesIt();
        trialsGrow();
        c.end();
    }

    /** "Until then it is one of WAYS 0 and 1, PART 500, 1 LOOK." */
    private static void trialAtFirst() {
        int[][] cases = {
            // n1, g1, n2, g2, how it ENDS: 1 of 20 is just 500, 500.83 is above
            {1, 1, 19, 0, 1}, {19, 0, 1, 1, 2}, {1, 1, 18, 0, 3}, {6, 0, 18, 10, 3}, {6, 5, 18, 5, 3}};
        for (int[] n : cases) {
            LadderDesk d = new LadderDesk();
            d.make(0, Check.TRIAL, 1, 0);
            c.lookWas(d, 0, 0, 0, 0, 0, 0, 0);
            Desks.tell(d, 0, 0, n[0], n[1]);
            Desks.tell(d, 1, 0, n[2], n[3]);
            c.due("it ENDS by its only LOOK", d.look(0, 0), n[4]);
            c.due("no more", d.look(0, 0), Check.NO);
        }
    }

    private static void everyPairOfWays() {
        for (int x = 0; x < 4; x++) {
            for (int y = 0; y < 4; y++) {
                LadderDesk d = Desks.trial(500, 1);
                for (int way = 0; way < 4; way++) {
                    Desks.tell(d, way, 0, 10 + way, way);
                }
                c.due("x " + x + " y " + y, d.trial(0, x, y, 1, 20), x == y ? Check.NO : 1);
                if (x != y) {
                    c.due("it goes on", d.look(0, 0), 0);
                    c.due("n1", d.trialTold(0, 1), 10 + x);
                    c.due("n2", d.trialTold(0, 2), 10 + y);
                    c.due("g1", d.trialTold(0, 3), x);
                    c.due("g2", d.trialTold(0, 4), y);
                }
            }
        }
    }

    private static void minutesOfALook() {
        LadderDesk d = Desks.trial(1, 20);
        for (int m : new int[] {0, 1, 238, 239}) {
            Desks.tell(d, 0, m, 1 + m % 5, 1);
            Desks.tell(d, 1, m, 2 + m % 5, 0);
        }
        // Up to the MINUTE, with it: 0 tells 1 and 2 CALLS, 1 tells 2 and 3, 238 tells 4 and 5, 239 tells 5 and 6.
        int[][] due = {{0, 1, 2, 1}, {1, 3, 5, 2}, {2, 3, 5, 2}, {237, 3, 5, 2}, {238, 7, 10, 3}, {239, 12, 16, 4}};
        for (int[] n : due) {
            c.due("look at " + n[0], d.look(0, n[0]), 0);
            c.due("n1", d.trialTold(0, 1), n[1]);
            c.due("n2", d.trialTold(0, 2), n[2]);
            c.due("g1", d.trialTold(0, 3), n[3]);
            c.due("g2", d.trialTold(0, 4), 0);
        }
    }

    private static void minutesToldOfOneOnly() {
        LadderDesk d = Desks.trial(1, 20);
        Desks.tell(d, 0, 0, 3, 1);
        Desks.tell(d, 1, 1, 4, 1);
        c.due("none is told of both", d.look(0, 239), Check.UNTOLD);
        Desks.tell(d, 0, 2, 5, 2);
        c.due("none is told of both", d.look(0, 239), Check.UNTOLD);
        Desks.tell(d, 1, 2, 6, 3);
        c.due("one is, but later", d.look(0, 1), Check.UNTOLD);
        c.due("one is", d.look(0, 2), 0);
        c.due("n1", d.trialTold(0, 1), 5);
        c.due("n2", d.trialTold(0, 2), 6);
        Desks.tell(d, 1, 0, 0, 0);
        c.due("told as 0 is told", d.look(0, 2), 0);
        c.due("n1", d.trialTold(0, 1), 8);
        c.due("n2", d.trialTold(0, 2), 6);
    }

    private static void callsUpToThirty() {
        for (int n1 : new int[] {0, 1, 2, 29, 30, 31}) {
            for (int n2 : new int[] {0, 1, 2, 29, 30, 31}) {
                LadderDesk d = Desks.trial(1, 20);
                Desks.tell(d, 0, 0, n1, 0);
                Desks.tell(d, 1, 0, n2, 0);
                int due = n1 == 0 || n2 == 0 ? Check.UNTOLD : n1 > 30 || n2 > 30 ? Check.FULL : 0;
                c.due("n1 " + n1 + " n2 " + n2, d.look(0, 0), due);
                c.due("LOOKS", d.trialTold(0, 5), due == 0 ? 1 : 0);
            }
        }
        LadderDesk d = Desks.trial(1, 20);
        for (int m = 0; m < 31; m++) {
            Desks.tell(d, 0, m, 1, 0);
            Desks.tell(d, 1, m, 1, 0);
        }
        c.due("thirty in all", d.look(0, 29), 0);
        c.due("thirty-one in all", d.look(0, 30), Check.FULL);
    }

    private static void untoldGoesAheadOfFull() {
        LadderDesk d = Desks.trial(1, 20);
        Desks.tell(d, 0, 0, 31, 0);
        Desks.tell(d, 1, 0, 0, 0);
        c.due("n1 is above 30, n2 is 0", d.look(0, 0), Check.UNTOLD);
        d.trial(0, 1, 0, 1, 20);
        c.due("n1 is 0, n2 is above 30", d.look(0, 0), Check.UNTOLD);
    }

    private static void manyCallsAreFull() {
        LadderDesk d = Desks.trial(1, 20);
        for (int m = 0; m < 240; m++) {
            d.count(0, 0, m, 1000000, 0);
            d.count(0, 1, m, m == 239 ? 1 : 0, 0);
        }
        c.due("n2 is 0", d.look(0, 238), Check.UNTOLD);
        c.due("n1 is far above 30", d.look(0, 239), Check.FULL);
        d.trial(0, 1, 0, 1, 20);
        c.due("n2 is far above 30", d.look(0, 239), Check.FULL);
    }

    private static void looksUpToTwenty() {
        for (int looks : new int[] {1, 2, 19, 20}) {
            LadderDesk d = Desks.trial(1, looks);
            Desks.tell(d, 0, 0, 3, 1);
            Desks.tell(d, 1, 0, 3, 2);
            for (int i = 1; i < looks; i++) {
                c.due("it goes on", d.look(0, 0), 0);
                c.due("LOOKS made", d.trialTold(0, 5), i);
                c.due("not ended", d.trialTold(0, 6), 0);
            }
            c.due("the last", d.look(0, 0), 3);
            c.due("LOOKS made", d.trialTold(0, 5), looks);
            c.due("ended", d.trialTold(0, 6), 3);
            c.due("no more", d.look(0, 0), Check.NO);
            c.due("LOOKS made", d.trialTold(0, 5), looks);
        }
    }

    /** 1 GOOD of 1 against 0 of n2: CHANCE is 1 of n2 + 1, and comes to whole PARTS. */
    private static void endsAtThePart() {
        int[][] cases = {
            // n2, LOOKS, the least PART that ends it
            {1, 1, 10000}, {3, 1, 2500}, {4, 1, 2000}, {4, 2, 4000}, {7, 1, 1250}, {9, 5, 5000}, {15, 1, 625}, {15, 8, 5000},
            {19, 10, 5000}, {24, 1, 400}, {24, 12, 4800}};
        for (int[] n : cases) {
            for (int part : new int[] {n[2] - 1, n[2], n[2] + 1}) {
                if (part <= 5000) {
                    LadderDesk d = Desks.trial(part, n[1]);
                    Desks.tell(d, 0, 0, 1, 1);
                    Desks.tell(d, 1, 0, n[0], 0);
                    int else3 = n[1] == 1 ? 3 : 0;
                    c.due("1 of " + (n[0] + 1) + ", PART " + part, d.look(0, 0), part >= n[2] ? 1 : else3);
                }
            }
        }
        LadderDesk d = Desks.trial(5000, 1);
        Desks.tell(d, 0, 0, 1, 1);
        Desks.tell(d, 1, 0, 1, 0);
        c.due("CHANCE 1 is above each PART", d.look(0, 0), 3);
        c.lookWas(d, 1000000, 1, 1, 1, 0, 1, 3);
    }

    private static void endsByTheOneThatIsBetter() {
        LadderDesk d = Desks.trial(1, 20);
        Desks.tell(d, 0, 0, 30, 30);
        Desks.tell(d, 1, 0, 30, 0);
        c.due("x is better", d.look(0, 0), 1);
        c.lookWas(d, 0, 30, 30, 30, 0, 1, 1);
        d.trial(0, 1, 0, 1, 20);
        c.due("y is better", d.look(0, 0), 2);
        c.lookWas(d, 0, 30, 30, 0, 30, 1, 2);
        d = Desks.trial(5000, 2);
        Desks.tell(d, 0, 0, 30, 30);
        Desks.tell(d, 1, 0, 15, 15);
        c.due("neither is, and that is never rare", d.look(0, 0), 0);
        c.due("the last", d.look(0, 0), 3);
        c.lookWas(d, 1000000, 30, 15, 30, 15, 2, 3);
        // More GOODS, but fewer of its CALLS: the other one is better.
        d = Desks.trial(5000, 1);
        Desks.tell(d, 0, 0, 30, 5);
        Desks.tell(d, 1, 0, 4, 4);
        c.due("y is better, by its part", d.look(0, 0), 2);
    }

    /** "not below": what is as far apart on the other side counts, too. */
    private static void farAsSeenCounts() {
        LadderDesk d = Desks.trial(1, 20);
        Desks.tell(d, 0, 0, 2, 2);
        Desks.tell(d, 1, 0, 2, 0);
        d.look(0, 0);
        c.due("2 of 6", d.trialTold(0, 0), 333333);
        Desks.tell(d, 0, 0, 2, 2);
        Desks.tell(d, 1, 0, 1, 0);
        d.look(0, 0);
        c.due("1 of 3: 1 and 1 is less far apart", d.trialTold(0, 0), 333333);
        Desks.tell(d, 0, 0, 2, 1);
        Desks.tell(d, 1, 0, 2, 1);
        d.look(0, 0);
        c.due("all are as far apart", d.trialTold(0, 0), 1000000);
        Desks.tell(d, 0, 0, 2, 1);
        Desks.tell(d, 1, 0, 1, 0);
        d.look(0, 0);
        c.due("1 of 2 against 0 of 1; 0 of 2 against 1 of 1", d.trialTold(0, 0), 1000000);
    }

    private static void chancesAtTheirEnds() {
        LadderDesk d = Desks.trial(1, 20);
        int[][] cases = {
            // n1, n2, g1, g2, millionths
            {1, 1, 0, 0, 1000000}, {1, 1, 1, 1, 1000000}, {30, 30, 0, 0, 1000000}, {30, 30, 30, 30, 1000000},
            {30, 30, 15, 15, 1000000}, {1, 30, 1, 0, 32258}, {30, 1, 0, 1, 32258}, {1, 30, 0, 30, 32258},
            {30, 30, 1, 0, 1000000}, {30, 30, 2, 0, 491525}, {30, 30, 15, 16, 1000000}, {30, 30, 29, 29, 1000000}};
        for (int[] n : cases) {
            Desks.tell(d, 0, 0, n[0], n[2]);
            Desks.tell(d, 1, 0, n[1], n[3]);
            c.due("it goes on", d.look(0, 0), 0);
            c.due(n[0] + " " + n[1] + " " + n[2] + " " + n[3], d.trialTold(0, 0), n[4]);
        }
    }

    private static void refusedLookIsNone() {
        LadderDesk d = Desks.trial(1, 2);
        Desks.tell(d, 0, 0, 4, 2);
        Desks.tell(d, 1, 0, 5, 2);
        c.due("look", d.look(0, 0), 0);
        int[] was = {1000000, 4, 5, 2, 2, 1, 0};
        c.lookWas(d, was);
        Desks.tell(d, 0, 1, 27, 0);
        Desks.tell(d, 1, 1, 1, 0);
        c.due("FULL", d.look(0, 1), Check.FULL);
        c.lookWas(d, was);
        Desks.tell(d, 0, 0, 0, 0);
        c.due("UNTOLD", d.look(0, 0), Check.UNTOLD);
        c.lookWas(d, was);
        d.counts(0, 1, false);
        c.due("MISSING", d.look(0, 0), Check.MISSING);
        c.lookWas(d, was);
        d.counts(0, 1, true);
        Desks.tell(d, 0, 0, 1, 0);
        Desks.tell(d, 1, 0, 1, 0);
        c.due("the second of two", d.look(0, 0), 3);
    }

    private static void endedUntilAnew() {
        LadderDesk d = Desks.trial(5000, 20);
        Desks.tell(d, 0, 0, 30, 30);
        Desks.tell(d, 1, 0, 30, 0);
        c.due("it ends at the first LOOK", d.look(0, 0), 1);
        Desks.tell(d, 0, 0, 31, 0);
        c.due("NO goes ahead of FULL", d.look(0, 0), Check.NO);
        Desks.tell(d, 0, 0, 0, 0);
        c.due("NO goes ahead of UNTOLD", d.look(0, 0), Check.NO);
        c.lookWas(d, 0, 30, 30, 30, 0, 1, 1);
        d.counts(0, 0, false);
        c.due("a ROW goes ahead of NO", d.look(0, 0), Check.MISSING);
        c.due("anew", d.trial(0, 1, 0, 1, 1), 1);
        c.lookWas(d, 0, 0, 0, 0, 0, 0, 0);
        c.due("a ROW", d.look(0, 0), Check.MISSING);
        d.counts(0, 0, true);
        Desks.tell(d, 0, 0, 1, 0);
        c.due("it has not ended any more", d.look(0, 0), 3);
    }

    private static void refusedTrialLeavesIt() {
        LadderDesk d = Desks.trial(1, 3);
        Desks.tell(d, 0, 0, 4, 2);
        Desks.tell(d, 1, 0, 5, 2);
        d.look(0, 0);
        int[][] refused = {{0, 0, 1, 3}, {2, 3, 0, 3}, {2, 3, 5001, 3}, {2, 3, 1, 0}, {2, 3, 1, 21}};
        for (int[] n : refused) {
            c.due("trial", d.trial(0, n[0], n[1], n[2], n[3]), Check.NO);
        }
        c.lookWas(d, 1000000, 4, 5, 2, 2, 1, 0);
        c.due("of the WAYS of before", d.look(0, 0), 0);
        c.due("the third of three", d.look(0, 0), 3);
    }

    /** "A TRIAL is a STEPPED one, too": a LOOK leaves STEPS as they are, and an ended one GROWS. */
    private static void trialsGrow() {
        LadderDesk d = Desks.trial(500, 1);
        d.row(0, 2);
        d.step(0, 0, 5);
        d.step(0, 1, 6);
        c.due("grow", d.grow(0, 0), 5);
        Desks.tell(d, 0, 0, 4, 4);
        Desks.tell(d, 1, 0, 4, 0);
        c.due("look", d.look(0, 0), 1);
        c.due("STANDS", d.stands(0, 0), 0);
        c.due("grow", d.grow(0, 0), 6);
        c.due("back", d.back(0), 5);
        c.due("ended", d.trialTold(0, 6), 1);
    }
}
