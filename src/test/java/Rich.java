import java.util.ArrayList;
import java.util.List;

/**
 * A desk on which everything has something that a refused call could spoil, and readings that tell all of it. Each
 * reading is for a desk of its own: a desk is good for 512 calls.
 */
final class Rich {
    interface Reading {
        void of(LadderDesk d, Answers to);
    }

    /** What a desk answered, one number behind the other. */
    static final class Answers {
        private final long[] all = new long[512];
        private int n;

        void add(long answer) {
            all[n] = answer;
            n++;
        }

        /** -1: they are alike. */
        int firstUnlike(Answers other) {
            for (int i = 0; i < Math.max(n, other.n); i++) {
                if (all[i] != other.all[i]) {
                    return i;
                }
            }
            return -1;
        }
    }

    /** The PLACES that hold a SWITCH; 5 holds a NOTE, 6 and all from 8 on nothing. */
    private static final int[] SWITCHES = {0, 1, 2, 3, 4, 7};
    private static final int[] MINUTES = {0, 1, 2};

    /** THE CALLER sits among the SEATS of WAY 1 everywhere, and just beside what each RULE asks for. */
    static LadderDesk desk() {
        LadderDesk d = Check.ofEachKind();
        d.make(7, Check.STEPPED, 1, 0);
        d.caller(12, 3, 40, 2);
        for (int p : SWITCHES) {
            d.share(p, 1, 10, 5);
            d.share(p, 2, 100, 50);
            d.rule(p, 0, 4, 15, 3);
            d.rule(p, 1, 41, 4000, 4);
            d.rule(p, 2, 3, 7, 5);
        }
        d.hang(3, 0, 1);
        d.hang(4, 1, 2);
        d.stop(4, 1, true);
        d.hang(3, 3, 0);
        climb(d);
        tryOut(d);
        d.image();
        d.note(5, 56L);
        return d;
    }

    /** PLACE 1 STANDS on STEP 1 of 0 .. 3, 7 on its only one, 2 on NONE. */
    private static void climb(LadderDesk d) {
        Desks.lay(d, 1, 5, 10, 20, 40);
        d.budget(1, 2, 10, 1000, false);
        d.waits(1, 3);
        d.grow(1, 0);
        d.count(1, 1, 0, 20, 1);
        d.count(1, 1, 1, 20, 2);
        d.grow(1, 1);
        Desks.lay(d, 7, 6);
        d.grow(7, 0);
        Desks.lay(d, 2, 7, 8, 9);
    }

    private static void tryOut(LadderDesk d) {
        d.trial(2, 0, 1, 500, 5);
        d.count(2, 0, 0, 5, 0);
        d.goods(2, 0, 0, 4);
        d.count(2, 1, 0, 6, 1);
        d.goods(2, 1, 0, 1);
        d.look(2, 0);
    }

    /** All that a call refused by this word leaves as it was: only a RING is what ring() tells from then on. */
    static List<Reading> readings(int word) {
        List<Reading> all = new ArrayList<>(List.of(
            Rich::readShelf, Rich::readStepsAndCounts, Rich::readWhatIsHidden, Rich::readImage));
        if (word != Check.RING) {
            all.add(Rich::readRing);
        }
        return all;
    }

    private static void readShelf(LadderDesk d, Answers to) {
        for (int p = 0; p < 16; p++) {
            to.add(d.holds(p));
            to.add(d.read(p));
            readCaller(d, p, to);
        }
        for (int p : SWITCHES) {
            for (int way = 1; way <= 7; way++) {
                to.add(d.shares(p, way, 0));
                to.add(d.shares(p, way, 1));
            }
        }
        int[][] callers = {{12, 4, 40, 2}, {12, 3, 41, 2}, {12, 3, 40, 3}, {120, 3, 40, 2}, {999, 0, 0, 0}};
        for (int[] n : callers) {
            d.caller(n[0], n[1], n[2], n[3]);
            for (int p : SWITCHES) {
                to.add(d.way(p));
            }
        }
    }

    private static void readRing(LadderDesk d, Answers to) {
        for (int i = -1; i <= 16; i++) {
            to.add(d.ring(i));
        }
    }

    private static void readCaller(LadderDesk d, int place, Answers to) {
        to.add(d.seat(place));
        to.add(d.way(place));
        to.add(d.why(place));
    }

    private static void readStepsAndCounts(LadderDesk d, Answers to) {
        for (int p : new int[] {0, 1, 2}) {
            for (int what = 0; what < 36; what++) {
                to.add(d.told(p, what / 3 % 4, MINUTES[what / 12], what % 3));
            }
        }
        for (int p : new int[] {1, 2, 7}) {
            readLadder(d, p, to);
        }
        for (int what = 0; what < 7; what++) {
            to.add(d.trialTold(2, what));
        }
        for (int i = 0; i < 5; i++) {
            to.add(d.look(2, i % 2));
            to.add(d.trialTold(2, 0));
        }
    }

    private static void readLadder(LadderDesk d, int place, Answers to) {
        for (int what = 0; what < 4; what++) {
            to.add(d.stands(place, what));
        }
        for (int minute : MINUTES) {
            to.add(d.left(place, minute));
        }
        to.add(d.waits(place, 0));
        for (int i = 0; i < 3; i++) {
            to.add(d.back(place));
        }
        for (int i = 0; i < 20; i++) {
            to.add(d.step(place, i, 0));
        }
    }

    /** What a BUDGET, RULES and STOPS do is seen only by what comes of them. */
    private static void readWhatIsHidden(LadderDesk d, Answers to) {
        to.add(d.grow(1, 1));
        to.add(d.grow(1, 1));
        for (int minute : new int[] {1, 2, 3, 4}) {
            to.add(d.count(1, 1, minute, 2 + minute, 1));
            to.add(d.grow(1, minute));
            to.add(d.stands(1, 2));
        }
        to.add(d.grow(7, 1));
        to.add(d.count(7, 1, 1, 1, 1));
        for (int p : SWITCHES) {
            for (int i = 0; i < 7; i++) {
                to.add(d.unrule(p));
                to.add(d.why(p));
            }
        }
        for (int on = 0; on < 8; on++) {
            to.add(d.hang(4, on, 1));
            to.add(d.hang(3, on, 1));
        }
        for (int way = 0; way < 4; way++) {
            to.add(d.counts(0, way, true));
            to.add(d.counts(1, way, true));
            to.add(d.counts(2, way, true));
        }
    }

    private static void readImage(LadderDesk d, Answers to) {
        to.add(d.restore());
        for (int p = 0; p < 16; p++) {
            to.add(d.holds(p));
            to.add(d.read(p));
            readCaller(d, p, to);
        }
        for (int p : new int[] {1, 2, 7}) {
            readLadder(d, p, to);
        }
        for (int what = 0; what < 7; what++) {
            to.add(d.trialTold(2, what));
        }
    }
}
