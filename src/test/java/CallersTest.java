/** Promises 2 to 5. */
public final class CallersTest {
    private static final Check c = new Check();

    public static void main(String[] args) {
        callerIsTaken();
        callerIsRefused();
        seatIsReckoned();
        wayOfSeats();
        wayOfRules();
        wayOfHanging();
        wayOfStops();
        stoppedStopStillStops();
        whyTellsTheFirstCause();
        manyPathsEndSoon();
        placesAreLookedAt();
        c.end();
    }

    private static void callerIsTaken() {
        LadderDesk d = new LadderDesk();
        d.make(0, Check.PLAIN, 1, 0);
        c.due("at first NUMBER is 0", d.seat(0), 0);
        c.due("least", d.caller(0, 0, 0, 0), 1);
        c.due("most", d.caller(999999, 15, 4000, 7), 1);
        c.due("seat", d.seat(0), 9999);
    }

    private static void callerIsRefused() {
        LadderDesk d = new LadderDesk();
        d.make(0, Check.PLAIN, 1, 0);
        d.rule(0, 0, 0, 0, 5);
        d.caller(3, 1, 2, 3);
        int[][] none = {
            {-1, 0, 0, 0}, {1000000, 0, 0, 0}, {0, -1, 0, 0}, {0, 16, 0, 0}, {0, 0, -1, 0}, {0, 0, 4001, 0},
            {0, 0, 0, -1}, {0, 0, 0, 8}, {Check.LEAST, 0, 0, 0}, {Check.MOST, Check.MOST, Check.MOST, Check.MOST}};
        for (int[] n : none) {
            c.due("caller", d.caller(n[0], n[1], n[2], n[3]), Check.BEYOND);
        }
        c.due("NUMBER stays", d.seat(0), 3);
        c.due("MARKS stay", d.way(0), 0);
        c.due("all were counted", d.status(Check.BEYOND), none.length);
    }

    private static void seatIsReckoned() {
        LadderDesk d = new LadderDesk();
        d.make(15, Check.STOP, 9999, 9999);
        d.caller(999999, 0, 0, 0);
        c.due("beyond an int", d.seat(15), (9999L * 999999L + 9999L) % 10000L);
        d.make(15, Check.STEPPED, 3, 5);
        d.caller(7, 0, 0, 0);
        c.due("3 * 7 + 5", d.seat(15), 26);
    }

    private static void wayOfSeats() {
        LadderDesk d = new LadderDesk();
        d.make(0, Check.PLAIN, 1, 0);
        d.share(0, 7, 9990, 10);
        d.share(0, 2, 10, 5);
        int[][] seatAndWay = {{9, 0}, {10, 2}, {14, 2}, {15, 0}, {9989, 0}, {9990, 7}, {9999, 7}};
        for (int[] s : seatAndWay) {
            d.caller(s[0], 0, 0, 0);
            c.due("way of seat " + s[0], d.way(0), s[1]);
            c.due("why of seat " + s[0], d.why(0), 0);
        }
    }

    private static void wayOfRules() {
        LadderDesk d = new LadderDesk();
        d.make(0, Check.PLAIN, 1, 0);
        d.share(0, 1, 0, 10000);
        d.rule(0, 0, 9, 3, 7);
        d.rule(0, 1, 18, 30, 2);
        d.rule(0, 2, 4, 4, 3);
        d.rule(0, 0, 5, 5, 0);
        d.rule(0, 1, 20, 40, 4);
        d.rule(0, 1, Check.LEAST, Check.MOST, 5);
        int[][] cases = {
            // land, age, sort, way, why
            {6, 18, 4, 2, 2}, {5, 30, 4, 2, 2}, {5, 31, 4, 3, 3}, {5, 31, 5, 0, 4}, {6, 31, 5, 4, 5},
            {6, 17, 0, 5, 6}, {6, 41, 0, 5, 6}, {6, 4000, 3, 5, 6}};
        for (int[] m : cases) {
            d.caller(1, m[0], m[1], m[2]);
            c.due("way", d.way(0), m[3]);
            c.due("why", d.why(0), m[4]);
        }
        d.unrule(0);
        d.caller(1, 6, 17, 0);
        c.due("its seat again", d.way(0), 1);
        c.due("by its seat", d.why(0), 0);
    }

    private static void wayOfHanging() {
        LadderDesk d = new LadderDesk();
        d.make(0, Check.HANGING, 1, 0);
        d.make(1, Check.STOP, 1, 0);
        d.make(2, Check.PLAIN, 1, 0);
        d.rule(0, 0, 0, 15, 6);
        d.share(1, 1, 0, 10000);
        d.share(2, 3, 0, 2);
        d.hang(0, 1, 1);
        d.hang(1, 2, 3);
        d.caller(1, 0, 0, 0);
        c.due("rule of what hangs", d.way(0), 6);
        c.due("why", d.why(0), 1);
        c.due("a STOP hangs too", d.way(1), 1);
        d.caller(2, 0, 0, 0);
        c.due("over two", d.way(0), 0);
        c.due("over two", d.why(0), 7);
        c.due("a STOP hangs too", d.way(1), 0);
        c.due("a STOP hangs too", d.why(1), 7);
        d.hang(1, 2, 0);
        c.due("WAY 0 may be told", d.way(1), 1);
        d.hang(1, 2, 3);
        d.note(2, 1L);
        c.due("a NOTE is no SWITCH", d.way(0), 6);
        d.make(2, Check.PLAIN, 1, 0);
        c.due("a SWITCH is there again", d.why(1), 7);
        d.empty(2);
        c.due("nothing is no SWITCH", d.why(1), 0);
    }

    private static void wayOfStops() {
        LadderDesk d = new LadderDesk();
        d.make(0, Check.PLAIN, 1, 0);
        d.share(0, 4, 0, 10000);
        d.make(3, Check.STOP, 1, 0);
        d.make(9, Check.STOP, 1, 0);
        d.make(10, Check.PLAIN, 1, 0);
        c.due("a new STOP is not ON", d.stop(3, 0, false), 1);
        d.stop(9, 1, true);
        c.due("stopped", d.way(0), 0);
        c.due("stopped", d.why(0), 17);
        d.stop(3, 1, true);
        c.due("the least", d.why(0), 11);
        d.stop(3, 2, true);
        c.due("another PLACE's", d.why(0), 17);
        d.stop(9, 1, false);
        c.due("not ON", d.way(0), 4);
        d.stop(9, 1, true);
        d.share(10, 2, 0, 5);
        d.hang(9, 10, 2);
        d.caller(4, 0, 0, 0);
        c.due("the STOP holds", d.why(0), 17);
        d.caller(5, 0, 0, 0);
        c.due("the STOP does not hold", d.why(0), 0);
        d.empty(10);
        c.due("it hangs on none", d.why(0), 17);
        d.empty(9);
        c.due("the STOP is gone", d.why(0), 0);
    }

    private static void stoppedStopStillStops() {
        LadderDesk d = new LadderDesk();
        d.make(0, Check.PLAIN, 1, 0);
        d.share(0, 4, 0, 10000);
        d.make(1, Check.STOP, 1, 0);
        d.share(1, 3, 0, 10000);
        d.make(2, Check.STOP, 1, 0);
        d.stop(1, 1, true);
        d.stop(2, 2, true);
        c.due("the STOP is stopped", d.way(1), 0);
        c.due("the STOP is stopped", d.why(1), 10);
        c.due("it stops all the same", d.why(0), 9);
    }

    private static void whyTellsTheFirstCause() {
        LadderDesk d = new LadderDesk();
        d.make(0, Check.HANGING, 1, 0);
        d.make(1, Check.PLAIN, 1, 0);
        d.make(15, Check.STOP, 1, 0);
        d.rule(0, 0, 0, 15, 2);
        d.hang(0, 1, 1);
        d.stop(15, 1, true);
        c.due("a STOP goes ahead of hanging", d.why(0), 23);
        d.stop(15, 1, false);
        c.due("hanging goes ahead of a RULE", d.why(0), 7);
        d.share(1, 1, 0, 10000);
        c.due("a RULE goes ahead of the SEAT", d.why(0), 1);
    }

    // Each PLACE asks all below it: without a memory that would be 2^15 paths for each caller.
    private static void manyPathsEndSoon() {
        LadderDesk d = new LadderDesk();
        for (int p = 0; p < 16; p++) {
            d.make(p, Check.STOP, 1, 0);
            d.share(p, 1, 0, 10000);
        }
        for (int p = 1; p < 16; p++) {
            c.due("hang", d.hang(p, p - 1, 2), 1);
            c.due("stop", d.stop(p, (0xFFFF << p) & 0xFFFF & ~(1 << p), true), 1);
        }
        for (int i = 0; i < 100; i++) {
            c.due("nobody", d.among(15, 1, 0, 2000), 0);
        }
        c.due("hanging", d.why(15), 7);
    }

    private static void placesAreLookedAt() {
        LadderDesk d = Check.ofEachKind();
        for (int place : new int[] {-1, 16, Check.LEAST, Check.MOST}) {
            c.due("seat", d.seat(place), Check.BEYOND);
            c.due("way", d.way(place), Check.BEYOND);
            c.due("why", d.why(place), Check.BEYOND);
        }
        c.due("seat", d.seat(5), Check.KIND);
        c.due("way", d.way(5), Check.KIND);
        c.due("why", d.why(5), Check.KIND);
        c.due("seat", d.seat(6), Check.MISSING);
        c.due("way", d.way(6), Check.MISSING);
        c.due("why", d.why(6), Check.MISSING);
        for (int place = 0; place < 5; place++) {
            c.due("seat", d.seat(place), 0);
            c.due("way", d.way(place), 0);
            c.due("why", d.why(place), 0);
        }
    }
}
