/** Terms 1 and promises 15 to 17: what hangs on what, sets of STOPS, and RINGS, at their ends. */
public final class RingEdgesTest {
    private static final Check c = new Check();

    public static void main(String[] args) {
        ringOfOne();
        ringOfTwo();
        ringOfSixteen();
        ringOverStopsAlone();
        everyBitOfASet();
        setAsksWhetherOnOrNot();
        setAsksWhateverThePlaceHolds();
        stopItselfIsNotAsked();
        stopThatHangsOnNoneAsksNothing();
        ringsGoOverWhatIsEmpty();
        refusedHangLeavesWhatHung();
        refusedStopLeavesItsSet();
        ringIsTheLastOne();
        ringBeginsWithTheLeast();
        ringBesideOthersThatLeadThere();
        placeAsksBoth();
        ringOverTheLeastOfThoseAsFar();
        hangsOnAnother();
        c.end();
    }

    private static LadderDesk hangers(int kind) {
        LadderDesk d = new LadderDesk();
        for (int p = 0; p < 16; p++) {
            d.make(p, kind, 1, 0);
            d.share(p, 1, 0, 10000);
        }
        return d;
    }

    private static void ringOfOne() {
        for (int p = 0; p < 16; p++) {
            LadderDesk d = hangers(Check.HANGING);
            c.due("on itself", d.hang(p, p, 0), Check.RING);
            c.ringIs(d, p);
            c.due("it hangs on none", d.why(p), 0);
        }
    }

    private static void ringOfTwo() {
        LadderDesk d = hangers(Check.HANGING);
        c.due("hang", d.hang(15, 0, 1), 1);
        c.due("back", d.hang(0, 15, 1), Check.RING);
        c.ringIs(d, 0, 15);
        c.due("hang", d.hang(15, Check.NONE, 1), 1);
        c.due("the other way around", d.hang(0, 15, 1), 1);
        c.due("back", d.hang(15, 0, 1), Check.RING);
        c.ringIs(d, 0, 15);
    }

    private static int[] upTo(int n) {
        int[] all = new int[n];
        for (int i = 0; i < n; i++) {
            all[i] = i;
        }
        return all;
    }

    private static void ringOfSixteen() {
        LadderDesk d = hangers(Check.HANGING);
        for (int p = 0; p < 15; p++) {
            c.due("hang", d.hang(p, p + 1, 1), 1);
        }
        c.due("over all sixteen", d.hang(15, 0, 1), Check.RING);
        c.ringIs(d, upTo(16));
        c.due("over fifteen", d.hang(15, 1, 1), Check.RING);
        c.ringIs(d, 1, 2, 3, 4, 5, 6, 7, 8, 9, 10, 11, 12, 13, 14, 15);
        c.due("over two", d.hang(15, 14, 1), Check.RING);
        c.ringIs(d, 14, 15);
        c.due("it hangs on none", d.way(15), 1);
        d = hangers(Check.HANGING);
        for (int p = 1; p < 16; p++) {
            c.due("hang", d.hang(p, p - 1, 1), 1);
        }
        c.due("over all sixteen, downwards", d.hang(0, 15, 1), Check.RING);
        c.ringIs(d, 0, 15, 14, 13, 12, 11, 10, 9, 8, 7, 6, 5, 4, 3, 2, 1);
    }

    /** PLACE p of 0 .. 7 asks the next, because the STOP at 8 + p hangs there. */
    private static void ringOverStopsAlone() {
        for (boolean on : new boolean[] {true, false}) {
            LadderDesk d = hangers(Check.STOP);
            for (int p = 0; p < 8; p++) {
                d.make(p, Check.PLAIN, 1, 0);
                c.due("hang", d.hang(8 + p, (p + 1) % 8, 0), 1);
            }
            for (int p = 0; p < 7; p++) {
                c.due("stop", d.stop(8 + p, 1 << p, on), 1);
            }
            c.due("the last one", d.stop(15, 1 << 7, on), Check.RING);
            c.ringIs(d, upTo(8));
            c.due("it hangs on none", d.hang(15, Check.NONE, 0), 1);
            c.due("stop", d.stop(15, 1 << 7, on), 1);
            c.due("by hanging", d.hang(15, 6, 0), Check.RING);
            c.ringIs(d, 6, 7);
        }
    }

    private static void everyBitOfASet() {
        for (int p = 0; p < 16; p++) {
            LadderDesk d = hangers(Check.STOP);
            for (int bit = 0; bit < 32; bit++) {
                boolean isTaken = bit < 16 && bit != p;
                c.due("STOP " + p + " bit " + bit, d.stop(p, 1 << bit, true), isTaken ? 1 : Check.NO);
            }
            c.due("none", d.stop(p, 0, true), 1);
            c.due("all others", d.stop(p, 0xFFFF ^ 1 << p, true), 1);
            c.due("all", d.stop(p, 0xFFFF, false), Check.NO);
            c.due("it is as it was", d.why((p + 1) % 16), 8 + p);
        }
    }

    private static void setAsksWhetherOnOrNot() {
        for (boolean on : new boolean[] {true, false}) {
            LadderDesk d = hangers(Check.STOP);
            d.hang(2, 0, 1);
            c.due("the set has what it hangs on", d.stop(2, 1, on), Check.RING);
            c.ringIs(d, 0);
            c.due("the set has another", d.stop(2, 1 << 1, on), 1);
            c.due("that asks 0 now", d.hang(0, 1, 0), Check.RING);
            c.ringIs(d, 0, 1);
        }
    }

    private static void setAsksWhateverThePlaceHolds() {
        LadderDesk d = hangers(Check.STOP);
        d.empty(1);
        d.note(3, 7L);
        d.hang(2, 1, 1);
        d.make(1, Check.PLAIN, 1, 0);
        c.due("hang", d.hang(2, 1, 1), 1);
        d.empty(1);
        c.due("nothing is there", d.stop(2, 1 << 1, true), Check.RING);
        c.ringIs(d, 1);
        d.note(1, 7L);
        c.due("a NOTE is there", d.stop(2, 1 << 1 | 1 << 3, false), Check.RING);
        c.ringIs(d, 1);
        c.due("another NOTE", d.stop(2, 1 << 3, true), 1);
        d.make(1, Check.HANGING, 1, 0);
        d.make(3, Check.PLAIN, 1, 0);
        c.due("what came to that PLACE asks, too", d.hang(1, 3, 0), Check.RING);
        c.ringIs(d, 1, 3);
    }

    private static void stopItselfIsNotAsked() {
        LadderDesk d = hangers(Check.STOP);
        d.stop(2, 1 << 1, true);
        c.due("on what stops it", d.hang(1, 2, 0), 1);
        c.due("on what it stops: that asks 1, which is itself", d.hang(2, 1, 0), Check.RING);
        c.ringIs(d, 1);
    }

    private static void stopThatHangsOnNoneAsksNothing() {
        LadderDesk d = hangers(Check.STOP);
        for (int p = 0; p < 16; p++) {
            c.due("all stop all", d.stop(p, 0xFFFF ^ 1 << p, true), 1);
        }
        c.due("none hangs", d.ring(0), Check.BEYOND);
        c.due("then one would", d.hang(5, 6, 0), Check.RING);
        c.ringIs(d, 6);
    }

    private static void ringsGoOverWhatIsEmpty() {
        LadderDesk d = hangers(Check.STOP);
        d.hang(3, 5, 0);
        d.hang(9, 7, 0);
        d.stop(9, 1 << 5, true);
        d.empty(5);
        c.due("7 would ask 3, that asks 5, that asks 7", d.hang(7, 3, 0), Check.RING);
        c.ringIs(d, 3, 5, 7);
        d.empty(7);
        d.make(7, Check.PLAIN, 1, 0);
        c.due("what hung there has gone", d.hang(3, 7, 0), 1);
    }

    private static void refusedHangLeavesWhatHung() {
        LadderDesk d = hangers(Check.HANGING);
        d.hang(0, 1, 3);
        c.due("on itself", d.hang(0, 0, 1), Check.RING);
        c.due("it hangs as before", d.why(0), 7);
        c.due("it hangs as before", d.hang(1, 0, 0), Check.RING);
        c.ringIs(d, 0, 1);
        d.share(1, 1, 0, 0);
        d.share(1, 3, 0, 10000);
        c.due("by the WAY of before", d.why(0), 0);
    }

    private static void refusedStopLeavesItsSet() {
        LadderDesk d = hangers(Check.STOP);
        d.hang(2, 0, 1);
        d.stop(2, 1 << 1, true);
        c.due("RING", d.stop(2, 1, false), Check.RING);
        c.due("it is ON", d.why(1), 10);
        c.due("NO", d.stop(2, 1 << 2, false), Check.NO);
        c.due("it is ON", d.why(1), 10);
        d.stop(2, 1 << 3, false);
        c.due("RING", d.stop(2, 1, true), Check.RING);
        c.due("it is not ON", d.why(3), 0);
        c.due("3 asks 0 still", d.hang(0, 3, 0), Check.RING);
        c.due("1 does not any more", d.hang(0, 1, 0), 1);
    }

    private static void ringIsTheLastOne() {
        LadderDesk d = hangers(Check.STOP);
        d.hang(9, 9, 0);
        c.ringIs(d, 9);
        c.due("taken", d.hang(9, 8, 0), 1);
        c.ringIs(d, 9);
        c.due("refused by another word", d.hang(9, 16, 0), Check.BEYOND);
        c.due("refused by another word", d.stop(9, 1 << 9, true), Check.NO);
        c.ringIs(d, 9);
        d.hang(8, 9, 0);
        c.ringIs(d, 8, 9);
        d.empty(8);
        d.empty(9);
        c.ringIs(d, 8, 9);
        d.stop(10, 1 << 11, true);
        d.hang(10, 11, 0);
        c.ringIs(d, 11);
    }

    /** Several PLACES would come to themselves: it begins with the least, though others do so over fewer. */
    private static void ringBeginsWithTheLeast() {
        LadderDesk d = hangers(Check.STOP);
        d.hang(0, 9, 0);
        d.hang(9, 12, 0);
        d.hang(10, 0, 0);
        d.hang(15, 12, 0);
        d.stop(15, 1 << 10, false);
        c.due("12 and 10 would ask one another", d.hang(12, 10, 0), Check.RING);
        c.ringIs(d, 0, 9, 12, 10);
    }

    /** 0 only leads to a RING: it does not come to itself. */
    private static void ringBesideOthersThatLeadThere() {
        LadderDesk d = hangers(Check.HANGING);
        d.hang(0, 5, 0);
        d.hang(1, 0, 0);
        d.hang(5, 6, 0);
        c.due("RING", d.hang(6, 5, 0), Check.RING);
        c.ringIs(d, 5, 6);
    }

    /** What a PLACE hangs on, and what the STOPS below and above it hang on: it asks all of them. */
    private static void placeAsksBoth() {
        for (int stop : new int[] {0, 15}) {
            for (int asked : new int[] {3, 6}) {
                LadderDesk d = hangers(Check.STOP);
                d.hang(5, 6, 0);
                d.hang(stop, 3, 0);
                d.stop(stop, 1 << 5, false);
                c.due("5 asks " + asked, d.hang(asked, 5, 0), Check.RING);
                c.ringIs(d, Math.min(5, asked), Math.max(5, asked));
            }
        }
        LadderDesk d = hangers(Check.STOP);
        d.hang(0, 3, 0);
        c.due("the last bit", d.stop(0, 1 << 15, false), 1);
        c.due("15 asks 3", d.hang(3, 15, 0), Check.RING);
        c.ringIs(d, 3, 15);
        d.hang(15, 2, 0);
        d.stop(15, 1, false);
        c.due("0 asks 2", d.hang(2, 0, 0), Check.RING);
        c.ringIs(d, 0, 2);
    }

    /** From 1 over 7 or 8 to 9, and back: it does not matter which of them came first. */
    private static void ringOverTheLeastOfThoseAsFar() {
        for (int first : new int[] {7, 8}) {
            LadderDesk d = hangers(Check.STOP);
            int second = 15 - first;
            d.hang(1, first, 0);
            d.hang(14, second, 0);
            d.stop(14, 1 << 1, true);
            d.hang(7, 9, 0);
            d.hang(8, 9, 0);
            c.due("RING", d.hang(9, 1, 0), Check.RING);
            c.ringIs(d, 1, 7, 9);
            d.hang(7, 10, 0);
            d.hang(10, 9, 0);
            c.due("now it is farther", d.hang(9, 1, 0), Check.RING);
            c.ringIs(d, 1, 8, 9);
            d.hang(8, 10, 0);
            c.due("now both are as far again", d.hang(9, 1, 0), Check.RING);
            c.ringIs(d, 1, 7, 10, 9);
        }
    }

    private static void hangsOnAnother() {
        LadderDesk d = hangers(Check.HANGING);
        c.due("hang", d.hang(0, 15, 7), 1);
        c.due("another WAY", d.why(0), 7);
        c.due("the same PLACE, another WAY", d.hang(0, 15, 1), 1);
        c.due("the WAY told", d.why(0), 0);
        c.due("on NONE, with a WAY that is none", d.hang(0, Check.NONE, 8), 1);
        c.due("on NONE again", d.hang(0, Check.NONE, Check.LEAST), 1);
        c.due("on none", d.why(0), 0);
        c.due("the other one may hang there now", d.hang(15, 0, 0), 1);
    }
}
