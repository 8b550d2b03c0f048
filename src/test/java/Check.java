/** Gathers the answers that are not as due, and ends the test with exit code 1 if there was one. */
final class Check {
    static final int NONE = LadderDesk.NONE;
    static final int MISSING = LadderDesk.MISSING;
    static final int BEYOND = LadderDesk.BEYOND;
    static final int BELOW = LadderDesk.BELOW;
    static final int KIND = LadderDesk.KIND;
    static final int COPY = LadderDesk.COPY;
    static final int RING = LadderDesk.RING;
    static final int UNTOLD = LadderDesk.UNTOLD;
    static final int FEW = LadderDesk.FEW;
    static final int OVER = LadderDesk.OVER;
    static final int WAITING = LadderDesk.WAITING;
    static final int NO = LadderDesk.NO;
    static final int FULL = LadderDesk.FULL;

    static final int PLAIN = 0;
    static final int STEPPED = 1;
    static final int TRIAL = 2;
    static final int HANGING = 3;
    static final int STOP = 4;

    static final int LEAST = Integer.MIN_VALUE;
    static final int MOST = Integer.MAX_VALUE;

    /** What ofEachKind() has at PLACES that hold no SWITCH. */
    static final int NOTE = 5;
    static final int NOTHING = 6;

    /** The first numbers that are not from low to high any more, and the last ones that there are. */
    static int[] beyond(int low, int high) {
        return new int[] {low - 1, high + 1, LEAST, MOST};
    }

    private int wrong;
    private int asked;

    void due(String what, long got, long want) {
        asked++;
        if (got != want) {
            wrong++;
            System.out.println(asker() + ": " + what + " answered " + got + ", due is " + want);
        }
    }

    /** The line of the test itself, not of what helps it. */
    private static StackTraceElement asker() {
        StackTraceElement[] all = new Throwable().getStackTrace();
        for (StackTraceElement at : all) {
            if (at.getClassName().endsWith("Test")) {
                return at;
            }
        }
        return all[all.length - 1];
    }

    void dueThat(String what, boolean holds) {
        asked++;
        if (!holds) {
            wrong++;
            System.out.println(what + " does not hold");
        }
    }

    /** The RING that was refused last is just this one. */
    void ringIs(LadderDesk d, int... places) {
        for (int i = 0; i < places.length; i++) {
            due("ring " + i, d.ring(i), places[i]);
        }
        for (int i : beyond(0, places.length - 1)) {
            due("ring " + i, d.ring(i), BEYOND);
        }
        due("ring 16", d.ring(16), BEYOND);
    }

    /** What trialTold() tells of the TRIAL at PLACE 0, from the CHANCE on. */
    void lookWas(LadderDesk d, int... told) {
        for (int what = 0; what < told.length; what++) {
            due("trialTold " + what, d.trialTold(0, what), told[what]);
        }
    }

    void end() {
        System.out.println(asked + " answers, " + wrong + " not as due");
        if (wrong != 0) {
            System.exit(1);
        }
    }

    /** A desk whose PLACES 0 .. 4 hold a SWITCH of each KIND, 5 a NOTE, and the rest nothing. */
    static LadderDesk ofEachKind() {
        LadderDesk d = new LadderDesk();
        for (int kind = 0; kind <= 4; kind++) {
            d.make(kind, kind, 1, 0);
        }
        d.note(5, 55L);
        return d;
    }
}
