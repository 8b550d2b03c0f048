/** Gathers the answers that are not as due, and ends the test with exit code 1 if there was one. */
final class Check {
    static final int NONE = LadderDesk.NONE;
    static final int MISSING = LadderDesk.MISSING;
    static final int BEYOND = LadderDesk.BEYOND;
    static final int BELOW = LadderDesk.BELOW;
    static final int KIND = LadderDesk.KIND;
    static final int COPY = LadderDesk.COPY;
    static final int RING = LadderDesk.RING;
    static final int UNTOLD = LadderDesk.UNTOLD;
    static final int FEW = LadderDesk.FEW;
    static final int OVER = LadderDesk.OVER;
    static final int WAITING = LadderDesk.WAITING;
    static final int NO = LadderDesk.NO;
    static final int FULL = LadderDesk.FULL;

    static final int PLAIN = 0;
    static final int STEPPED = 1;
    static final int TRIAL = 2;
    static final int HANGING = 3;
    static final int STOP = 4;

    static final int LEAST = Integer.MIN_VALUE;
    static final int MOST = Integer.MAX_VALUE;

    /** What ofEachKind() has at PLACES that hold no SWITCH. */
    static final int NOTE = 5;
    static final int NOTHING = 6;

    /** The first numbers that are not from low to high any more, and the last ones that there are. */
    static int[] beyond(int low, int high) {
        return new int[] {low - 1, high + 1, LEAST, MOST};
    }

    private int wrong;
    private int asked;

    void due(String what, long got, long want) {
        asked++;
        if (got != want) {
            wrong++;
            StackTraceElement at = new Throwable().getStackTrace()[1];
            System.out.println(at + ": " + what + " answered " + got + ", due is " + want);
        }
    }

    void dueThat(String what, boolean holds) {
        asked++;
        if (!holds) {
            wrong++;
            System.out.println(what + " does not hold");
        }
    }

    void end() {
        System.out.println(asked + " answers, " + wrong + " not as due");
        if (wrong != 0) {
            System.exit(1);
        }
    }

    /** A desk whose PLACES 0 .. 4 hold a SWITCH of each KIND, 5 a NOTE, and the rest nothing. */
    static LadderDesk ofEachKind() {
        LadderDesk d = new LadderDesk();
        for (int kind = 0; kind <= 4; kind++) {
            d.make(kind, kind, 1, 0);
        }
        d.note(5, 55L);
        return d;
    }
}
