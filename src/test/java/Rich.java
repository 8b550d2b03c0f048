import java.util.ArrayList;
import java.util.List;

/**
 * A desk on which everything has something that a refused call could spoil, and readings that tell all of it. Each
 * reading is for a desk of its own: a desk is good for 512 calls.
 */
final class Rich {
    interface Reading {
        void of(LadderDesk d, Answers to);
    }

    /** What a desk answered, one number behind the other. */
    static final class Answers {
        private final long[] all = new long[512];
        private int n;

        void add(long answer) {
            all[n] = answer;
            n++;
        }

        /** -1: they are alike. */
        int firstUnlike(Answers other) {
            for (int i = 0; i < Math.max(n, other.n); i++) {
                if (all[i] != other.all[i]) {
                    return i;
                }
            }
            return -1;
        }
    }

    /** The PLACES that hold a SWITCH; 5 holds a NOTE, 6 and all from 8 on nothing. */
    private static final int[] SWITCHES = {0, 1, 2, 3, 4, 7};

    /** Its IMAGE has another NOTE. */
    static LadderDesk desk() {
        LadderDesk d = withoutImage();
        d.image();
        d.note(5, 56L);
        return d;
    }

    /**
     * THE CALLER sits among the SEATS of WAY 1 nearly everywhere, and just beside what each RULE asks for. No two
     * SWITCHES have the same SEATS: so it is seen which one of them another hangs on.
     */
    static LadderDesk withoutImage() {
        LadderDesk d = Check.ofEachKind();
        d.make(7, Check.STEPPED, 1, 0);
        d.caller(12, 3, 40, 2);
        for (int p : SWITCHES) {
            d.share(p, 1, 12 - p, 5);
            d.share(p, 2, 100 + p, 50);
            d.rule(p, 0, 4, 15, 3);
            d.rule(p, 1, 41, 4000, 4);
            d.rule(p, 2, 3, 7, 5);
        }
        d.hang(3, 0, 1);
        d.hang(4, 1, 2);
        d.stop(4, 1, true);
        d.hang(3, 3, 0);
        tellAll(d);
        climb(d);
        tryOut(d);
        return d;
    }

    private static void tellAll(LadderDesk d) {
        for (int p : new int[] {0, 3, 4}) {
            for (int way = 0; way < 4; way++) {
                d.count(p, way, 1, 10 + way, 3);
                d.goods(p, way, 1, 2);
            }
        }
    }

    /** PLACE 1 STANDS on STEP 1 of 0 .. 3, 7 on its only one, 2 on NONE. */
    private static void climb(LadderDesk d) {
        Desks.lay(d, 1, 5, 10, 20, 40);
        d.budget(1, 2, 10, 1000, false);
        d.waits(1, 3);
        d.grow(1, 0);
        d.count(1, 1, 0, 20, 1);
        d.count(1, 1, 1, 20, 2);
        d.grow(1, 1);
        Desks.lay(d, 7, 6);
        d.grow(7, 0);
        Desks.lay(d, 2, 7, 8, 9);
        d.budget(2, 2, 10, 1000, true);
        d.waits(2, 4);
    }

    /** 1 LOOK of 5 is made. */
    private static void tryOut(LadderDesk d) {
        d.trial(2, 0, 1, 2500, 5);
        d.count(2, 0, 0, 5, 0);
        d.goods(2, 0, 0, 4);
        d.count(2, 1, 0, 6, 1);
        d.goods(2, 1, 0, 2);
        d.look(2, 0);
    }

    /** All that a call refused by this word leaves as it was: only a RING is what ring() tells from then on. */
    static List<Reading> readings(int word) {
        List<Reading> all = new ArrayList<>(List.of(Rich::readShelf, Rich::readCounts, Rich::readLadders,
            Rich::readTrial, Rich::readBudgets, Rich::readRules, Rich::readWhatIsAsked, Rich::readImage));
        if (word != Check.RING) {
            all.add(Rich::readRing);
        }
        return all;
    }

    private static void readShelf(LadderDesk d, Answers to) {
        readPlaces(d, to);
        for (int p : SWITCHES) {
            for (int way = 1; way <= 7; way++) {
                to.add(d.shares(p, way, 0));
                to.add(d.shares(p, way, 1));
            }
        }
        int[][] callers = {{12, 4, 40, 2}, {12, 3, 41, 2}, {12, 3, 40, 3}, {15, 3, 40, 2}, {101, 3, 40, 2}, {120, 3, 40, 2},
            {999, 0, 0, 0}};
        for (int[] n : callers) {
            d.caller(n[0], n[1], n[2], n[3]);
            for (int p : SWITCHES) {
                to.add(d.way(p));
                to.add(d.why(p));
            }
        }
    }

    private static void readPlaces(LadderDesk d, Answers to) {
        for (int p = 0; p < 16; p++) {
            to.add(d.holds(p));
            to.add(d.read(p));
            to.add(d.seat(p));
            to.add(d.way(p));
            to.add(d.why(p));
        }
    }

    private static void readRing(LadderDesk d, Answers to) {
        for (int i = -1; i <= 16; i++) {
            to.add(d.ring(i));
        }
    }

    private static void readCounts(LadderDesk d, Answers to) {
        for (int p : SWITCHES) {
            for (int i = 0; i < 24; i++) {
                to.add(d.told(p, i % 4, i / 4 % 2, i / 8));
            }
        }
        for (int p : new int[] {1, 2, 7}) {
            for (int minute : new int[] {0, 1, 2, 239}) {
                to.add(d.told(p, 1, minute, 0));
                to.add(d.left(p, minute));
            }
        }
        for (int p : SWITCHES) {
            for (int way = 0; way < 4; way++) {
                to.add(d.counts(p, way, true));
            }
        }
    }

    private static void readLadders(LadderDesk d, Answers to) {
        for (int p : new int[] {1, 2, 7}) {
            for (int what = 0; what < 4; what++) {
                to.add(d.stands(p, what));
            }
            to.add(d.waits(p, 0));
            to.add(d.grow(p, 1));
            for (int i = 0; i < 4; i++) {
                to.add(d.back(p));
            }
            for (int i = 0; i < 20; i++) {
                to.add(d.step(p, i, 0));
            }
        }
    }

    /** Then a CHANCE for which the PART of before is just too small, and one for which it is just enough. */
    private static void readTrial(LadderDesk d, Answers to) {
        for (int what = 0; what < 7; what++) {
            to.add(d.trialTold(2, what));
        }
        for (int minute : new int[] {0, 1}) {
            to.add(d.look(2, minute));
            to.add(d.trialTold(2, 0));
        }
        Desks.tell(d, 2, 0, 0, 12, 4);
        Desks.tell(d, 2, 1, 0, 29, 2);
        to.add(d.look(2, 0));
        Desks.tell(d, 2, 0, 0, 1, 1);
        Desks.tell(d, 2, 1, 0, 19, 0);
        to.add(d.look(2, 0));
        to.add(d.look(2, 0));
        to.add(d.trialTold(2, 5));
    }

    /** What a BUDGET is can be seen only by what comes of it: ENOUGH first, by calls that are not refused. */
    private static void readBudgets(LadderDesk d, Answers to) {
        for (int p : new int[] {1, 2, 7}) {
            to.add(d.counts(p, 1, true));
            to.add(d.count(p, 1, 210, 5, 0));
            for (int calls : new int[] {5, 4, 5}) {
                to.add(d.count(p, 1, 211, calls, 0));
                to.add(d.grow(p, 211));
            }
            for (int minute : new int[] {200, 201}) {
                to.add(d.count(p, 1, minute, 10000, 0));
                to.add(d.left(p, minute));
            }
            to.add(d.count(p, 1, 211, 20, 20));
            for (int what = 0; what < 4; what++) {
                to.add(d.stands(p, what));
            }
        }
    }

    /** Nothing hangs and nothing is stopped any more, so that each RULE is asked. */
    private static void readRules(LadderDesk d, Answers to) {
        to.add(d.stop(4, 0, false));
        to.add(d.hang(4, Check.NONE, 0));
        to.add(d.hang(3, Check.NONE, 0));
        int[][] marks = {{3, 40, 2}, {4, 40, 2}, {15, 40, 2}, {3, 41, 2}, {3, 4000, 2}, {3, 40, 3}, {3, 40, 7}};
        for (int[] n : marks) {
            d.caller(12, n[0], n[1], n[2]);
            for (int p : SWITCHES) {
                to.add(d.why(p));
                to.add(d.way(p));
            }
        }
        for (int p : SWITCHES) {
            for (int i = 0; i < 7; i++) {
                to.add(d.unrule(p));
                to.add(d.why(p));
            }
        }
    }

    private static void readWhatIsAsked(LadderDesk d, Answers to) {
        for (int on = 0; on < 8; on++) {
            to.add(d.hang(4, on, 1));
            to.add(d.hang(3, on, 1));
        }
    }

    private static void readImage(LadderDesk d, Answers to) {
        to.add(d.restore());
        readPlaces(d, to);
        readLadders(d, to);
        readTrial(d, to);
    }
}
