/** Promises 38 to 40. */
public final class AllTest {
    private static final Check c = new Check();

    public static void main(String[] args) {
        imageOfNothing();
        imageKeepsAll();
        imageStays();
        imageIsNoPartOfTheShelf();
        callerAndRingStay();
        statusCounts();
        statusIsRefused();
        c.end();
    }

    private static void imageOfNothing() {
        LadderDesk d = new LadderDesk();
        c.due("none", d.restore(), Check.MISSING);
        c.due("no SWITCH", d.image(), 0);
        d.make(0, 0, 1, 0);
        d.note(1, 3L);
        c.due("restore", d.restore(), 0);
        c.due("holds", d.holds(0), Check.NONE);
        c.due("holds", d.holds(1), Check.NONE);
        c.due("refused once", d.status(Check.MISSING), 1);
    }

    private static LadderDesk full() {
        LadderDesk d = new LadderDesk();
        d.make(0, Check.TRIAL, 3, 4);
        d.make(1, Check.STOP, 7, 9);
        d.make(2, Check.PLAIN, 1, 0);
        d.note(3, 33L);
        d.rule(2, 1, 5, 6, 2);
        d.rule(2, 0, 0, 9, 1);
        d.share(0, 1, 50, 0);
        d.share(0, 6, 300, 30);
        d.hang(1, 2, 1);
        d.stop(1, 1, true);
        d.row(0, 3);
        d.step(0, 0, 11);
        d.step(0, 1, 12);
        d.step(0, 2, 13);
        d.budget(0, 1, 1, 2000, false);
        d.waits(0, 4);
        d.grow(0, 0);
        d.count(0, 1, 0, 10, 2);
        d.grow(0, 0);
        d.grow(0, 0);
        d.count(0, 1, 1, 10, 3);
        d.goods(0, 1, 1, 5);
        d.counts(0, 3, false);
        d.count(0, 2, 1, 9, 1);
        d.goods(0, 2, 1, 1);
        d.trial(0, 1, 2, 400, 3);
        d.look(0, 1);
        return d;
    }

    private static void spoil(LadderDesk d) {
        d.make(0, Check.STOP, 1, 1);
        d.stop(0, 0xFFFE, true);
        d.make(2, Check.STEPPED, 1, 1);
        d.rule(2, 2, 9, 1, 5);
        d.rule(2, 2, 8, 1, 6);
        d.empty(1);
        d.empty(3);
        d.note(4, 4L);
        d.make(15, Check.TRIAL, 1, 1);
        for (int m = 0; m < 5; m++) {
            d.count(0, 1, m, 7, 7);
            d.count(0, 2, m, 7, 7);
        }
    }

    private static void isFull(LadderDesk d) {
        int[] holds = {2, 4, 0, 5, -1, -1, -1, -1, -1, -1, -1, -1, -1, -1, -1, -1};
        for (int p = 0; p < 16; p++) {
            c.due("holds", d.holds(p), holds[p]);
        }
        c.due("NOTE", d.read(3), 33L);
        d.caller(1, 0, 0, 0);
        c.due("seat", d.seat(0), 7);
        c.due("seat", d.seat(1), 16);
        c.due("why, a RULE", d.why(2), 2);
        c.due("way of a RULE", d.way(2), 1);
        c.due("why, a STOP", d.why(0), 9);
        d.caller(1, 0, 5, 0);
        c.due("why, a RULE", d.why(2), 1);
        c.due("the STOP does not hold", d.why(0), 0);
        c.due("why, hanging", d.why(1), 7);
        c.due("first SEAT", d.shares(0, 1, 0), 50);
        c.due("SEATS", d.shares(0, 1, 1), 12);
        c.due("first SEAT", d.shares(0, 6, 0), 300);
        c.due("SEATS", d.shares(0, 6, 1), 30);
        c.due("STANDS", d.stands(0, 0), 1);
        c.due("STEPS", d.stands(0, 1), 3);
        c.due("waits", d.stands(0, 2), 6);
        c.due("taken BACK", d.stands(0, 3), 1);
        c.due("WAIT", d.waits(0, 4), 4);
        c.due("STEP", d.step(0, 2, 13), 13);
        c.due("left", d.left(0, 1), -1);
        c.due("CALLS", d.told(0, 1, 1, 0), 10);
        c.due("FAULTS", d.told(0, 1, 1, 1), 3);
        c.due("GOODS", d.told(0, 1, 1, 2), 5);
        c.due("not told", d.told(0, 1, 2, 0), Check.UNTOLD);
        c.due("not told", d.told(0, 2, 0, 0), Check.UNTOLD);
        c.due("a ROW is missing", d.told(0, 3, 0, 0), Check.MISSING);
        int[] told = {140866, 10, 9, 5, 1, 1, 0};
        for (int what = 0; what < 7; what++) {
            c.due("trialTold", d.trialTold(0, what), told[what]);
        }
    }

    private static void imageKeepsAll() {
        LadderDesk d = full();
        isFull(d);
        c.due("three", d.image(), 3);
        isFull(d);
        spoil(d);
        c.due("three", d.restore(), 3);
        isFull(d);
        c.due("BUDGET, one STEP", d.count(0, 1, 5, 10, 3), 11);
        d.restore();
        c.due("TRIAL's LOOKS", d.look(0, 1), 0);
        c.due("TRIAL's LOOKS", d.look(0, 1), 3);
        d.image();
        d.trial(0, 1, 2, 400, 3);
        d.restore();
        c.due("TRIAL's end", d.trialTold(0, 6), 3);
        c.due("TRIAL's end", d.look(0, 1), Check.NO);
    }

    private static void imageStays() {
        LadderDesk d = full();
        d.image();
        spoil(d);
        d.restore();
        spoil(d);
        d.rule(2, 0, 0, 15, 7);
        d.restore();
        isFull(d);
        spoil(d);
        c.due("the one before goes", d.image(), 3);
        d.make(1, Check.PLAIN, 1, 0);
        c.due("restore", d.restore(), 3);
        c.due("holds", d.holds(0), 4);
        c.due("holds", d.holds(1), Check.NONE);
        c.due("holds", d.holds(2), 1);
        c.due("holds", d.holds(4), 5);
        c.due("holds", d.holds(15), 2);
    }

    private static void imageIsNoPartOfTheShelf() {
        LadderDesk d = full();
        d.image();
        d.caller(1, 0, 5, 0);
        d.share(0, 6, 0, 9);
        d.step(0, 2, 99);
        d.count(0, 1, 1, 1, 1);
        d.counts(0, 3, true);
        d.unrule(2);
        d.note(3, 9L);
        d.stop(1, 0, false);
        d.hang(1, Check.NONE, 0);
        d.trial(0, 0, 1, 1, 1);
        d.budget(0, 9, 9, 9, true);
        d.waits(0, 99);
        d.restore();
        isFull(d);
    }

    private static void callerAndRingStay() {
        LadderDesk d = new LadderDesk();
        d.make(0, Check.HANGING, 1, 0);
        d.caller(5, 0, 0, 0);
        d.image();
        d.caller(6, 0, 0, 0);
        d.hang(0, 0, 0);
        d.restore();
        c.due("THE CALLER is no part of it", d.seat(0), 6);
        c.due("the RING was refused all the same", d.ring(0), 0);
        c.due("refusals are counted on", d.status(Check.RING), 1);
    }

    private static void statusCounts() {
        LadderDesk d = Check.ofEachKind();
        d.restore();
        d.read(9);
        d.read(99);
        d.read(0);
        d.share(0, 1, 0, -1);
        d.row(1, 2);
        d.copy(1, 0, 1, 0, 3);
        d.hang(3, 3, 0);
        d.grow(1, 0);
        d.grow(1, 0);
        d.budget(1, 1, 5, 0, false);
        d.count(1, 1, 0, 4, 4);
        d.grow(1, 0);
        d.budget(1, 1, 4, 0, false);
        d.grow(1, 0);
        d.count(1, 1, 1, 4, 4);
        d.grow(1, 1);
        d.make(0, 9, 1, 0);
        d.make(0, 9, 1, 0);
        for (int i = 0; i < 7; i++) {
            d.rule(0, 0, 0, 0, 0);
        }
        int[] due = {2, 1, 1, 1, 1, 1, 1, 1, 1, 1, 2, 1};
        for (int by = -2; by >= -13; by--) {
            c.due("status " + by, d.status(by), due[-by - 2]);
            c.due("status " + by, d.status(by), due[-by - 2]);
        }
    }

    private static void statusIsRefused() {
        LadderDesk d = new LadderDesk();
        int[] none = {-1, 0, 1, 2, 13, -14, Check.LEAST, Check.MOST};
        for (int by : none) {
            c.due("status", d.status(by), Check.NO);
        }
        c.due("it is counted itself", d.status(Check.NO), none.length);
    }
}
