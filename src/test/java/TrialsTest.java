import java.math.BigInteger;

/** Promises 32 to 34. */
public final class TrialsTest {
    private static final Check c = new Check();
    private static final BigInteger[][] CHOOSE = new BigInteger[61][61];

    public static void main(String[] args) {
        fillChoose();
        trialAtFirst();
        trialIsRefused();
        lookIsRefused();
        lookTakesWhatIsToldOfBoth();
        endsAsItGoes();
        lastLookEnds();
        refusedLookIsNone();
        chanceJustAtThePart();
        chancesAreExact();
        trialToldIsRefused();
        c.end();
    }

    private static void fillChoose() {
        for (int n = 0; n <= 60; n++) {
            for (int k = 0; k <= 60; k++) {
                BigInteger above = n == 0 || k == 0 ? BigInteger.ZERO : CHOOSE[n - 1][k - 1];
                BigInteger beside = n == 0 ? BigInteger.ZERO : CHOOSE[n - 1][k];
                CHOOSE[n][k] = k == 0 ? BigInteger.ONE : above.add(beside);
            }
        }
    }

    private static void trialAtFirst() {
        LadderDesk d = new LadderDesk();
        d.make(0, Check.TRIAL, 1, 0);
        c.lookWas(d, 0, 0, 0, 0, 0, 0, 0);
        Desks.tell(d, 0, 0, 4, 4);
        Desks.tell(d, 1, 0, 4, 0);
        c.due("2 of 70, 500 of 10000, one LOOK", d.look(0, 0), 1);
        c.lookWas(d, 28571, 4, 4, 4, 0, 1, 1);
        d.make(0, Check.TRIAL, 1, 0);
        Desks.tell(d, 0, 0, 3, 3);
        Desks.tell(d, 1, 0, 3, 0);
        c.due("2 of 20: it is the last LOOK", d.look(0, 0), 3);
        c.lookWas(d, 100000, 3, 3, 3, 0, 1, 3);
        c.due("anew", d.trial(0, 1, 0, 5000, 1), 1);
        c.lookWas(d, 0, 0, 0, 0, 0, 0, 0);
        c.due("the other is better", d.look(0, 0), 2);
        c.lookWas(d, 100000, 3, 3, 0, 3, 1, 2);
    }

    private static void trialIsRefused() {
        LadderDesk d = Check.ofEachKind();
        for (int place : new int[] {-1, 16, Check.LEAST, Check.MOST}) {
            c.due("place", d.trial(place, 1, 1, 0, 0), Check.BEYOND);
        }
        for (int way : new int[] {-1, 4, Check.LEAST, Check.MOST}) {
            c.due("x", d.trial(6, way, 1, 0, 0), Check.BEYOND);
            c.due("y", d.trial(5, 1, way, 0, 0), Check.BEYOND);
            c.due("both", d.trial(2, way, way, 0, 0), Check.BEYOND);
        }
        c.due("nothing", d.trial(6, 1, 1, 0, 0), Check.MISSING);
        for (int place : new int[] {0, 1, 3, 4, 5}) {
            c.due("KIND", d.trial(place, 1, 1, 0, 0), Check.KIND);
        }
        int[][] none = {{2, 2, 500, 1}, {0, 1, 0, 1}, {0, 1, 5001, 1}, {0, 1, -1, 1}, {0, 1, 500, 0}, {0, 1, 500, 21},
            {0, 1, 500, -1}, {0, 1, Check.LEAST, 1}, {0, 1, 1, Check.MOST}};
        for (int[] n : none) {
            c.due("trial", d.trial(2, n[0], n[1], n[2], n[3]), Check.NO);
        }
        c.due("least", d.trial(2, 0, 3, 1, 1), 1);
        c.due("most", d.trial(2, 3, 2, 5000, 20), 1);
    }

    private static void lookIsRefused() {
        LadderDesk d = Check.ofEachKind();
        for (int minute : new int[] {-1, 240, Check.LEAST, Check.MOST}) {
            c.due("minute", d.look(2, minute), Check.BEYOND);
            c.due("minute", d.look(6, minute), Check.BEYOND);
        }
        c.due("place", d.look(16, 0), Check.BEYOND);
        c.due("place", d.look(-1, 0), Check.BEYOND);
        c.due("nothing", d.look(6, 0), Check.MISSING);
        for (int place : new int[] {0, 1, 3, 4, 5}) {
            c.due("KIND", d.look(place, 0), Check.KIND);
        }
        d = Desks.trial(500, 1);
        c.due("not told", d.look(0, 0), Check.UNTOLD);
        d.counts(0, 2, false);
        d.counts(0, 3, false);
        c.due("ROWS of others", d.look(0, 0), Check.UNTOLD);
        d.counts(0, 0, false);
        c.due("ROW of x", d.look(0, 0), Check.MISSING);
        d.counts(0, 0, true);
        d.counts(0, 1, false);
        c.due("ROW of y", d.look(0, 0), Check.MISSING);
        d.counts(0, 1, true);
        Desks.tell(d, 0, 0, 0, 0);
        Desks.tell(d, 1, 0, 31, 0);
        c.due("n1 is 0", d.look(0, 0), Check.UNTOLD);
        Desks.tell(d, 0, 0, 31, 0);
        Desks.tell(d, 1, 0, 0, 0);
        c.due("n2 is 0", d.look(0, 0), Check.UNTOLD);
        Desks.tell(d, 1, 0, 1, 0);
        c.due("n1 is 31", d.look(0, 0), Check.FULL);
        Desks.tell(d, 0, 0, 1, 0);
        Desks.tell(d, 1, 0, 31, 0);
        c.due("n2 is 31", d.look(0, 0), Check.FULL);
        Desks.tell(d, 1, 0, 30, 0);
        c.due("the last LOOK", d.look(0, 0), 3);
        c.due("it has ended", d.look(0, 0), Check.NO);
        Desks.tell(d, 1, 0, 0, 0);
        c.due("NO goes ahead of UNTOLD", d.look(0, 0), Check.NO);
        d.counts(0, 1, false);
        c.due("a ROW goes ahead of NO", d.look(0, 0), Check.MISSING);
        for (int m = 0; m < 240; m++) {
            d.count(0, 0, m, 1000000, 0);
        }
        d.trial(0, 0, 2, 500, 1);
        d.counts(0, 2, true);
        d.count(0, 2, 239, 1, 0);
        c.due("many", d.look(0, 239), Check.FULL);
    }

    private static void lookTakesWhatIsToldOfBoth() {
        LadderDesk d = Desks.trial(1, 20);
        Desks.tell(d, 0, 3, 5, 1);
        Desks.tell(d, 1, 3, 6, 2);
        Desks.tell(d, 0, 4, 30, 30);
        Desks.tell(d, 1, 5, 30, 30);
        Desks.tell(d, 0, 239, 7, 3);
        Desks.tell(d, 1, 239, 8, 4);
        Desks.tell(d, 2, 4, 9, 9);
        c.due("look", d.look(0, 2), Check.UNTOLD);
        c.due("look", d.look(0, 3), 0);
        c.due("n1", d.trialTold(0, 1), 5);
        c.due("n2", d.trialTold(0, 2), 6);
        c.due("g1", d.trialTold(0, 3), 1);
        c.due("g2", d.trialTold(0, 4), 2);
        c.due("look", d.look(0, 239), 0);
        c.due("n1", d.trialTold(0, 1), 12);
        c.due("n2", d.trialTold(0, 2), 14);
        c.due("g1", d.trialTold(0, 3), 4);
        c.due("g2", d.trialTold(0, 4), 6);
        c.due("LOOKS", d.trialTold(0, 5), 2);
        c.due("look, an earlier one", d.look(0, 238), 0);
        c.due("n1", d.trialTold(0, 1), 5);
    }

    private static void endsAsItGoes() {
        LadderDesk d = Desks.trial(500, 2);
        Desks.tell(d, 0, 0, 5, 0);
        Desks.tell(d, 1, 0, 5, 5);
        c.due("y is better", d.look(0, 0), 2);
        d.trial(0, 1, 0, 500, 2);
        c.due("x is better", d.look(0, 0), 1);
        c.due("ended", d.look(0, 0), Check.NO);
        d.trial(0, 1, 0, 500, 6);
        c.due("2 of 252, 60000: 476", d.look(0, 0), 1);
        d.trial(0, 1, 0, 500, 7);
        c.due("2 of 252, 70000: 555", d.look(0, 0), 0);
        Desks.tell(d, 0, 0, 5, 5);
        d.trial(0, 1, 0, 5000, 2);
        c.due("all are good", d.look(0, 0), 0);
        c.lookWas(d, 1000000, 5, 5, 5, 5, 1, 0);
        c.due("all are good", d.look(0, 0), 3);
        c.lookWas(d, 1000000, 5, 5, 5, 5, 2, 3);
    }

    private static void lastLookEnds() {
        LadderDesk d = Desks.trial(1, 20);
        Desks.tell(d, 0, 0, 1, 0);
        Desks.tell(d, 1, 0, 2, 1);
        for (int i = 1; i < 20; i++) {
            c.due("it goes on", d.look(0, 0), 0);
            c.due("LOOKS", d.trialTold(0, 5), i);
        }
        c.due("the last", d.look(0, 0), 3);
        c.due("LOOKS", d.trialTold(0, 5), 20);
        c.due("ended", d.trialTold(0, 6), 3);
        c.due("none more", d.look(0, 0), Check.NO);
        c.due("LOOKS", d.trialTold(0, 5), 20);
    }

    private static void refusedLookIsNone() {
        LadderDesk d = Desks.trial(1, 2);
        Desks.tell(d, 0, 0, 2, 1);
        Desks.tell(d, 1, 0, 2, 1);
        d.look(0, 0);
        Desks.tell(d, 0, 1, 31, 1);
        Desks.tell(d, 1, 1, 31, 1);
        c.due("refused", d.look(0, 1), Check.FULL);
        c.lookWas(d, 1000000, 2, 2, 1, 1, 1, 0);
        d.trial(0, 0, 0, 1, 1);
        c.lookWas(d, 1000000, 2, 2, 1, 1, 1, 0);
    }

    private static void chanceJustAtThePart() {
        // A CHANCE of 1 of 5 comes to whole PARTS: one PART less must not end it.
        LadderDesk d = Desks.trial(4000, 2);
        Desks.tell(d, 0, 0, 1, 1);
        Desks.tell(d, 1, 0, 4, 0);
        c.due("1 of 5 * 20000 is 4000", d.look(0, 0), 1);
        d.trial(0, 0, 1, 3999, 2);
        c.due("1 of 5 * 20000 is above 3999", d.look(0, 0), 0);
        d.trial(0, 0, 1, 2000, 1);
        c.due("1 of 5 * 10000 is 2000", d.look(0, 0), 1);
        d.trial(0, 0, 1, 1999, 1);
        c.due("1 of 5 * 10000 is above 1999", d.look(0, 0), 3);
    }

    /** Every look that there can be with some numbers, against whole numbers of any size. */
    private static void chancesAreExact() {
        int[][] sizes = {{1, 1}, {1, 30}, {30, 1}, {30, 30}, {29, 30}, {7, 11}, {12, 12}, {20, 13}, {30, 15}};
        for (int[] n : sizes) {
            for (int g1 = 0; g1 <= n[0]; g1++) {
                for (int g2 = 0; g2 <= n[1]; g2++) {
                    lookIsExact(n[0], n[1], g1, g2);
                }
            }
        }
    }

    private static void lookIsExact(int n1, int n2, int g1, int g2) {
        BigInteger all = CHOOSE[n1 + n2][g1 + g2];
        BigInteger apart = apart(n1, n2, g1, g2);
        BigInteger scaled = apart.multiply(BigInteger.valueOf(10000L * 19));
        // The least PART that ends it, and the one below.
        int part = scaled.add(all).subtract(BigInteger.ONE).divide(all).min(BigInteger.valueOf(100000)).intValue();
        int better = Integer.compare(g2 * n1, g1 * n2);
        int end = better < 0 ? 1 : better > 0 ? 2 : 3;
        LadderDesk d = new LadderDesk();
        d.make(0, Check.TRIAL, 1, 0);
        Desks.tell(d, 0, 0, n1, g1);
        Desks.tell(d, 1, 0, n2, g2);
        String which = n1 + " " + n2 + " " + g1 + " " + g2;
        for (int p = part - 1; p <= part + 1; p++) {
            if (p >= 1 && p <= 5000) {
                d.trial(0, 0, 1, p, 19);
                c.due(which + " part " + p, d.look(0, 0), p >= part ? end : 0);
            }
        }
        d.trial(0, 0, 1, 500, 1);
        d.look(0, 0);
        BigInteger millionths = apart.multiply(BigInteger.valueOf(1000000)).divide(all);
        c.due(which, d.trialTold(0, 0), millionths.longValueExact());
    }

    private static BigInteger apart(int n1, int n2, int g1, int g2) {
        BigInteger sum = BigInteger.ZERO;
        for (int k = 0; k <= g1 + g2; k++) {
            int rest = g1 + g2 - k;
            if (Math.abs(k * n2 - rest * n1) >= Math.abs(g1 * n2 - g2 * n1)) {
                sum = sum.add(CHOOSE[n1][k].multiply(CHOOSE[n2][rest]));
            }
        }
        return sum;
    }

    private static void trialToldIsRefused() {
        LadderDesk d = Check.ofEachKind();
        for (int what : new int[] {-1, 7, Check.LEAST, Check.MOST}) {
            c.due("what", d.trialTold(2, what), Check.NO);
            c.due("nothing", d.trialTold(6, what), Check.MISSING);
            c.due("place", d.trialTold(16, what), Check.BEYOND);
            c.due("place", d.trialTold(-1, what), Check.BEYOND);
            for (int place : new int[] {0, 1, 3, 4, 5}) {
                c.due("KIND", d.trialTold(place, what), Check.KIND);
            }
        }
    }
}
