/** Terms 1 and promises 1 to 5: what callers get at the ends of numbers, RULES, SEATS, STOPS and of what hangs. */
public final class CallerEdgesTest {
    private static final Check c = new Check();
    private static final int[] LAST_MARKS = {15, 4000, 7};

    public static void main(String[] args) {
        newObjectHasNothing();
        callerAtFirst();
        callerAtTheEnds();
        seatGoesAround();
        ruleWithItsEnds();
        ruleOfOneMarkAlone();
        firstOfSixRules();
        ruleOfWayZero();
        seatsOfEachWay();
        seatsAtTheEnds();
        newStopStopsNothing();
        eachStopStopsEachPlace();
        leastOfFifteenStops();
        stopHolds();
        stopOfWhatIsStopped();
        hangsOnEachWay();
        chainOfSixteen();
        hangsOnWhatIsNoSwitch();
        hangsOnWhatIsStopped();
        c.end();
    }

    private static void become(LadderDesk d, int mark, int value) {
        d.caller(0, mark == 0 ? value : 0, mark == 1 ? value : 0, mark == 2 ? value : 0);
    }

    private static LadderDesk plain() {
        LadderDesk d = new LadderDesk();
        d.make(0, Check.PLAIN, 1, 0);
        return d;
    }

    private static void newObjectHasNothing() {
        LadderDesk d = new LadderDesk();
        for (int by = -13; by <= -2; by++) {
            c.due("nothing was refused", d.status(by), 0);
        }
        for (int p = 0; p < 16; p++) {
            c.due("holds", d.holds(p), Check.NONE);
            c.due("seat", d.seat(p), Check.MISSING);
            c.due("empty", d.empty(p), 0);
            c.due("read", d.read(p), 0L);
        }
        c.due("read() is refused, too", d.status(Check.MISSING), 32);
        c.due("no RING", d.ring(0), Check.BEYOND);
        c.due("no IMAGE", d.restore(), Check.MISSING);
        c.due("no SWITCH", d.image(), 0);
    }

    private static void callerAtFirst() {
        LadderDesk d = new LadderDesk();
        d.make(0, Check.PLAIN, 9999, 7);
        c.due("NUMBER 0", d.seat(0), 7);
        for (int mark = 0; mark < 3; mark++) {
            d.make(0, Check.PLAIN, 1, 0);
            d.rule(0, mark, Check.LEAST, -1, 1);
            d.rule(0, mark, 1, Check.MOST, 2);
            d.rule(0, mark, 0, 0, 3);
            c.due("MARK 0", d.why(0), 3);
        }
    }

    private static void callerAtTheEnds() {
        for (int mark = 0; mark < 3; mark++) {
            LadderDesk d = plain();
            d.rule(0, mark, LAST_MARKS[mark], LAST_MARKS[mark], 6);
            d.caller(999999, 15, 4000, 7);
            c.due("the last MARK", d.way(0), 6);
            c.due("the last NUMBER", d.seat(0), 9999);
            become(d, mark, LAST_MARKS[mark] - 1);
            c.due("the last but one", d.way(0), 0);
            c.due("the first NUMBER", d.seat(0), 0);
        }
    }

    /** a * NUMBER + b goes around 10000, and beyond an int, and beyond one without a sign. */
    private static void seatGoesAround() {
        int[][] cases = {
            // a, b, NUMBER, SEAT
            {1, 0, 9999, 9999}, {1, 0, 10000, 0}, {1, 9999, 0, 9999}, {1, 9999, 1, 0}, {1, 1, 9999, 0}, {3, 1, 3333, 0},
            {9999, 8416, 214769, 3647}, {9999, 8417, 214769, 3648}, {9999, 9999, 214769, 5230},
            {9999, 6834, 429539, 7295}, {9999, 6835, 429539, 7296}, {9999, 0, 999999, 1}, {9999, 9999, 999999, 0},
            {9997, 9999, 999999, 2}};
        for (int[] n : cases) {
            LadderDesk d = new LadderDesk();
            d.make(15, Check.HANGING, n[0], n[1]);
            d.caller(n[2], 0, 0, 0);
            c.due(n[0] + " * " + n[2] + " + " + n[1], d.seat(15), n[3]);
        }
    }

    private static void ruleWithItsEnds() {
        int[][] holding = {{3, 3}, {2, 3}, {3, 4}, {2, 4}, {Check.LEAST, 3}, {3, Check.MOST}, {Check.LEAST, Check.MOST}};
        int[][] others = {{4, 7}, {0, 2}, {4, 2}, {3, 2}, {4, 3}, {Check.MOST, Check.LEAST}, {Check.LEAST, Check.LEAST},
            {Check.MOST, Check.MOST}, {Check.LEAST, 2}, {4, Check.MOST}, {-3, -3}};
        for (int mark = 0; mark < 3; mark++) {
            for (int[] ends : holding) {
                ruleIsWhy(mark, 3, ends, 1);
            }
            for (int[] ends : others) {
                ruleIsWhy(mark, 3, ends, 0);
            }
            ruleIsWhy(mark, 0, new int[] {-1, 0}, 1);
            ruleIsWhy(mark, 0, new int[] {1, LAST_MARKS[mark]}, 0);
            ruleIsWhy(mark, LAST_MARKS[mark], new int[] {LAST_MARKS[mark], LAST_MARKS[mark] + 1}, 1);
            ruleIsWhy(mark, LAST_MARKS[mark], new int[] {0, LAST_MARKS[mark] - 1}, 0);
        }
    }

    private static void ruleIsWhy(int mark, int value, int[] ends, int why) {
        LadderDesk d = plain();
        c.due("it is taken, wherever its ends are", d.rule(0, mark, ends[0], ends[1], 5), 1);
        become(d, mark, value);
        String which = "MARK " + mark + " of " + value + ", " + ends[0] + " to " + ends[1];
        c.due(which, d.why(0), why);
        c.due(which, d.way(0), why == 1 ? 5 : 0);
    }

    private static void ruleOfOneMarkAlone() {
        for (int mark = 0; mark < 3; mark++) {
            for (int other = 0; other < 3; other++) {
                LadderDesk d = plain();
                d.rule(0, mark, 2, 2, 4);
                become(d, other, 2);
                c.due("MARK " + mark + " by MARK " + other, d.way(0), mark == other ? 4 : 0);
            }
        }
    }

    private static void firstOfSixRules() {
        for (int first = 1; first <= 7; first++) {
            LadderDesk d = plain();
            d.share(0, 7, 0, 10000);
            for (int i = 1; i <= 6; i++) {
                d.rule(0, 0, i < first ? 1 : 0, 15, i);
            }
            c.due("the first that holds", d.why(0), first <= 6 ? first : 0);
            c.due("its WAY, or that of the SEAT", d.way(0), first);
        }
    }

    private static void ruleOfWayZero() {
        LadderDesk d = plain();
        d.share(0, 1, 0, 10000);
        d.rule(0, 0, 0, 0, 0);
        c.due("WAY 0, though the SEAT has another", d.way(0), 0);
        c.due("by the RULE", d.why(0), 1);
    }

    private static int wayOfSeat(LadderDesk d, int seat) {
        d.caller(seat, 0, 0, 0);
        return d.way(0);
    }

    private static void seatsOfEachWay() {
        LadderDesk d = plain();
        for (int way = 1; way <= 7; way++) {
            c.due("it had none at first", d.share(0, way, 1000 * way, 10), 0);
        }
        for (int way = 1; way <= 7; way++) {
            c.due("ahead of the first", wayOfSeat(d, 1000 * way - 1), 0);
            c.due("the first", wayOfSeat(d, 1000 * way), way);
            c.due("the last", wayOfSeat(d, 1000 * way + 9), way);
            c.due("behind the last", wayOfSeat(d, 1000 * way + 10), 0);
        }
    }

    private static void seatsAtTheEnds() {
        LadderDesk d = plain();
        d.share(0, 1, 0, 1);
        d.share(0, 7, 9999, 1);
        d.share(0, 3, 5000, 0);
        int[][] seatAndWay = {{0, 1}, {1, 0}, {5000, 0}, {9998, 0}, {9999, 7}};
        for (int[] n : seatAndWay) {
            c.due("SEAT " + n[0], wayOfSeat(d, n[0]), n[1]);
        }
        d = plain();
        d.share(0, 4, 0, 10000);
        c.due("all of them", wayOfSeat(d, 0), 4);
        c.due("all of them", wayOfSeat(d, 9999), 4);
        d.share(0, 4, 0, 9999);
        c.due("all but one", wayOfSeat(d, 9998), 4);
        c.due("all but one", wayOfSeat(d, 9999), 0);
        c.due("around", wayOfSeat(d, 10000), 4);
    }

    private static LadderDesk stops() {
        LadderDesk d = new LadderDesk();
        for (int p = 0; p < 16; p++) {
            d.make(p, Check.STOP, 1, 0);
            d.share(p, 1, 0, 10000);
        }
        return d;
    }

    private static void newStopStopsNothing() {
        LadderDesk d = stops();
        for (int p = 0; p < 16; p++) {
            c.due("not ON, and without a set", d.way(p), 1);
        }
        d.stop(4, 0, true);
        for (int p = 0; p < 16; p++) {
            c.due("ON, but without a set", d.why(p), 0);
        }
        d.stop(4, 0xFFEF, false);
        for (int p = 0; p < 16; p++) {
            c.due("with a set, but not ON", d.why(p), 0);
        }
    }

    private static void eachStopStopsEachPlace() {
        for (int p = 0; p < 16; p++) {
            LadderDesk d = stops();
            for (int q = 0; q < 16; q++) {
                if (q != p) {
                    d.stop(p, 1 << q, true);
                    c.due("stopped", d.why(q), 8 + p);
                    c.due("stopped", d.way(q), 0);
                    c.due("another one", d.why((q + 1) % 16), 0);
                    c.due("itself", d.why(p), 0);
                }
            }
        }
    }

    private static void leastOfFifteenStops() {
        for (int q : new int[] {0, 7, 15}) {
            LadderDesk d = stops();
            for (int p = 0; p < 16; p++) {
                d.stop(p, p == q ? 0 : 1 << q, true);
            }
            for (int p = 0; p < 16; p++) {
                int least = p == q ? p + 1 : p;
                c.due("the least", d.why(q), least < 16 ? 8 + least : 0);
                d.stop(p, p == q ? 0 : 1 << q, false);
            }
            c.due("none is ON", d.why(q), 0);
        }
    }

    private static void stopHolds() {
        LadderDesk d = stops();
        d.stop(9, 1, true);
        c.due("it hangs on none", d.why(0), 17);
        d.hang(9, 10, 1);
        c.due("the WAY told", d.why(0), 17);
        d.hang(9, 10, 2);
        c.due("another WAY", d.why(0), 0);
        d.hang(9, 10, 0);
        c.due("another WAY", d.why(0), 0);
        d.share(10, 1, 0, 5);
        c.due("WAY 1, told is 0", d.why(0), 0);
        d.caller(5, 0, 0, 0);
        c.due("WAY 0 is told", d.why(0), 17);
        d.hang(9, 10, 1);
        c.due("another WAY", d.why(0), 0);
        d.note(10, 0L);
        c.due("on a NOTE: as on none", d.why(0), 17);
        d.empty(10);
        c.due("on nothing: as on none", d.why(0), 17);
        d.make(10, Check.PLAIN, 1, 0);
        c.due("on a SWITCH again", d.why(0), 0);
        d.hang(9, Check.NONE, 0);
        c.due("on none", d.why(0), 17);
    }

    /** "What a STOP itself is stopped by does not matter"; what stops the one that it hangs on does. */
    private static void stopOfWhatIsStopped() {
        LadderDesk d = stops();
        d.stop(1, 1, true);
        d.stop(2, 1 << 1, true);
        c.due("the STOP is stopped", d.why(1), 10);
        c.due("it stops all the same", d.why(0), 9);
        d.hang(1, 5, 1);
        c.due("it holds", d.why(0), 9);
        d.stop(2, 1 << 5, true);
        c.due("THE WAY of what it hangs on is 0", d.why(0), 0);
        d.hang(1, 5, 0);
        c.due("and 0 is told", d.why(0), 9);
    }

    private static void hangsOnEachWay() {
        for (int told = 0; told <= 7; told++) {
            LadderDesk d = stops();
            d.make(1, Check.HANGING, 1, 0);
            d.share(1, 6, 0, 10000);
            c.due("hang", d.hang(1, 0, told), 1);
            for (int way = 0; way <= 7; way++) {
                d.rule(0, 0, 0, 15, way);
                c.due("told " + told + ", WAY " + way, d.way(1), way == told ? 6 : 0);
                c.due("told " + told + ", WAY " + way, d.why(1), way == told ? 0 : 7);
                d.unrule(0);
            }
        }
    }

    private static void chainOfSixteen() {
        LadderDesk d = stops();
        for (int p = 1; p < 16; p++) {
            c.due("hang", d.hang(p, p - 1, 1), 1);
        }
        c.due("all have WAY 1", d.way(15), 1);
        c.due("all have WAY 1", d.why(15), 0);
        c.due("all have WAY 1", d.among(15, 1, 0, 2000), 2000);
        d.share(0, 1, 0, 1000);
        d.caller(1000, 0, 0, 0);
        for (int p = 1; p < 16; p++) {
            c.due("it goes through all", d.way(p), 0);
            c.due("it goes through all", d.why(p), 7);
        }
        c.due("it goes through all", d.among(15, 1, 0, 2000), 1000);
        d.hang(8, 7, 0);
        c.due("WAY 0 is told in between", d.way(15), 1);
    }

    private static void hangsOnWhatIsNoSwitch() {
        LadderDesk d = stops();
        d.hang(1, 0, 5);
        c.due("another WAY", d.why(1), 7);
        d.empty(0);
        c.due("nothing there", d.why(1), 0);
        c.due("nothing there", d.way(1), 1);
        d.note(0, 5L);
        c.due("a NOTE there", d.why(1), 0);
        c.due("a NOTE there", d.way(1), 1);
        c.due("a NOTE there", d.among(1, 1, 0, 10), 10);
        d.make(0, Check.PLAIN, 1, 0);
        c.due("a SWITCH again", d.why(1), 7);
    }

    private static void hangsOnWhatIsStopped() {
        LadderDesk d = stops();
        d.hang(1, 0, 1);
        c.due("WAY 1", d.way(1), 1);
        d.stop(2, 1, true);
        c.due("THE WAY of what it hangs on is 0", d.why(1), 7);
        d.hang(1, 0, 0);
        c.due("and 0 is told", d.way(1), 1);
        d.stop(2, 3, true);
        c.due("it is stopped itself", d.why(1), 10);
    }
}
