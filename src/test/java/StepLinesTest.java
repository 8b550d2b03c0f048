/** The lines of refusals of promises 18 to 31: the last numbers taken, the first refused, and which goes ahead. */
public final class StepLinesTest {
    private static final Check c = new Check();
    /** PLACES whose SWITCH is not STEPPED. */
    private static final int[] NOT_STEPPED = {0, 3, 4};

    public static void main(String[] args) {
        rows();
        steps();
        copies();
        grow();
        back();
        standsAndBudgets();
        counts();
        left();
        c.end();
    }

    private static Line line(String name, Line.Call call, int... base) {
        return new Line(c, name, call, base);
    }

    private static void rows() {
        line("row", (d, v) -> d.row(v[0], v[1]), 2, 5)
            .takes(1, 1, 20)
            .refusesBeyond(0, 0, 15).refusesHeld(NOT_STEPPED)
            .refuses(Check.BELOW, 1, -1, Check.LEAST)
            .refuses(Check.NO, 1, 0, 21, Check.MOST).refuses(Check.NO, 0, 1, 7)
            .refusesAfter(Check.NO, 1, d -> d.grow(2, 0)).holds();
        line("tear", (d, v) -> d.tear(v[0]), 1).takes(0, 2, 7)
            .refusesBeyond(0, 0, 15).refusesHeld(NOT_STEPPED).holds();
    }

    private static void growTwice(LadderDesk d) {
        d.count(2, 1, 0, 10, 0);
        d.grow(2, 0);
        d.grow(2, 0);
    }

    private static void steps() {
        line("step", (d, v) -> d.step(v[0], v[1], v[2]), 2, 1, 9)
            .takes(1, 0, 2).takes(2, 0, 10000).takesAll(1, 2, 9).takesAll(1, 3, 9)
            .refusesBeyond(0, 0, 15).refusesHeld(NOT_STEPPED)
            .refusesAfter(Check.MISSING, 1, d -> d.tear(2))
            .refusesBeyond(1, 0, 2)
            .refuses(Check.NO, 2, Check.beyond(0, 10000))
            .refusesWith(Check.NO, 0, 1, 1, 0).refusesWith(Check.NO, 0, 1, 1, 1)
            .refusesAfterEarly(Check.NO, 1, StepLinesTest::growTwice).holds();
    }

    private static void copies() {
        line("copy", (d, v) -> d.copy(v[0], v[1], v[2], v[3], v[4]), 1, 1, 2, 0, 2)
            .takes(0, 2).takes(1, 0, 2).takes(3, 1).takes(4, 0, 3)
            .takesAll(1, 4, 2, 3, 0).takesAll(2, 0, 2, 0, 3).takesAll(2, 3, 2, 3, 0)
            .refusesBeyond(0, 0, 15).refusesBeyond(2, 0, 15)
            .refuses(Check.MISSING, 0, Check.NOTHING).refuses(Check.MISSING, 2, Check.NOTHING)
            .refuses(Check.KIND, 0, 0, 3, 4, Check.NOTE).refuses(Check.KIND, 2, 0, 3, 4, Check.NOTE)
            .refusesAfter(Check.MISSING, 1, d -> d.tear(1)).refusesAfter(Check.MISSING, 3, d -> d.tear(2))
            .refuses(Check.NO, 2, 1, 7).refusesAfterEarly(Check.NO, 1, d -> d.grow(2, 0))
            .refuses(Check.COPY, 1, 3, 4, 5).refuses(Check.COPY, 1, Check.beyond(0, 2))
            .refuses(Check.COPY, 3, 2, 3, 4).refuses(Check.COPY, 3, Check.beyond(0, 1))
            .refuses(Check.COPY, 4, 4, Check.MOST - 1).refuses(Check.COPY, 4, Check.beyond(0, 3))
            .refusesWith(Check.COPY, 1, 5, 4, 0).refusesWith(Check.COPY, 3, 4, 4, 0)
            .refusesWith(Check.COPY, 1, -1, 4, 0).refusesWith(Check.COPY, 3, -1, 4, 0).holds();
    }

    /** It STANDS on STEP 1 as before, but waits to 211. */
    private static void letWait(LadderDesk d) {
        d.grow(1, 1);
        d.budget(1, 1, 0, 0, false);
        d.waits(1, 10);
        d.count(1, 1, 200, 1, 1);
        d.budget(1, 2, 10, 1000, false);
    }

    private static void climbToTheEnd(LadderDesk d) {
        d.count(1, 1, 210, 100, 0);
        d.count(1, 1, 211, 100, 0);
        d.grow(1, 211);
        d.grow(1, 211);
    }

    private static void grow() {
        line("grow", (d, v) -> d.grow(v[0], v[1]), 1, 1)
            .takesAll(2, 0).takesAll(2, 239)
            .refusesBeyond(0, 0, 15).refusesBeyond(1, 0, 239).refusesHeld(NOT_STEPPED)
            .refusesAfter(Check.MISSING, 1, d -> d.tear(1))
            .refuses(Check.BEYOND, 0, 7).refusesAfterEarly(Check.BEYOND, 1, StepLinesTest::climbToTheEnd)
            .refuses(Check.UNTOLD, 1, 2, 239).refusesAfter(Check.UNTOLD, 2, d -> d.counts(1, 1, false))
            .refusesAfter(Check.FEW, 1, d -> d.budget(1, 2, 41, 0, false))
            .refusesAfter(Check.OVER, 1, d -> d.budget(1, 2, 40, 749, false))
            .refusesAfterEarly(Check.WAITING, 1, StepLinesTest::letWait)
            .refusesAfter(Check.NO, 1, d -> d.share(1, 2, 29, 1)).refusesAfter(Check.NO, 1, d -> d.step(1, 2, 9))
            .holds();
    }

    private static void back() {
        line("back", (d, v) -> d.back(v[0]), 1).takes(0, 7)
            .refusesBeyond(0, 0, 15).refusesHeld(NOT_STEPPED)
            .refusesAfter(Check.MISSING, 1, d -> d.tear(1)).refuses(Check.NO, 0, 2).holds();
    }

    private static void standsAndBudgets() {
        line("stands", (d, v) -> d.stands(v[0], v[1]), 1, 0)
            .takes(0, 2, 7).takes(1, 0, 3)
            .refusesBeyond(0, 0, 15).refusesHeld(NOT_STEPPED).refuses(Check.NO, 1, Check.beyond(0, 3)).holds();
        line("budget", (d, v) -> d.budget(v[0], v[1], v[2], v[3], v[4] != 0), 1, 5, 6, 7, 1)
            .takes(0, 2, 7).takes(1, 1, 60).takes(2, 0, 1000000).takes(3, 0, 10000).takes(4, 0)
            .refusesBeyond(0, 0, 15).refusesHeld(NOT_STEPPED)
            .refuses(Check.NO, 1, Check.beyond(1, 60)).refuses(Check.NO, 2, Check.beyond(0, 1000000))
            .refuses(Check.NO, 3, Check.beyond(0, 10000)).holds();
        line("waits", (d, v) -> d.waits(v[0], v[1]), 1, 5)
            .takes(0, 2, 7).takes(1, 0, 100)
            .refusesBeyond(0, 0, 15).refusesHeld(NOT_STEPPED).refuses(Check.NO, 1, Check.beyond(0, 100)).holds();
    }

    private static void counts() {
        line("count", (d, v) -> d.count(v[0], v[1], v[2], v[3], v[4]), 1, 1, 2, 10, 5)
            .takes(0, 0, 2, 3, 4).takes(1, 0, 3).takes(2, 0, 239).takes(3, 5, 1000000).takes(4, 0, 10)
            .takesAll(1, 1, 2, 0, 0).takesAll(1, 1, 2, 1000000, 1000000)
            .refusesBeyond(0, 0, 15).refusesBeyond(1, 0, 3).refusesBeyond(2, 0, 239).refusesHeld()
            .refusesAfter(Check.MISSING, 2, d -> d.counts(1, 1, false))
            .refuses(Check.NO, 3, 4).refuses(Check.NO, 3, Check.beyond(0, 1000000))
            .refuses(Check.NO, 4, Check.beyond(0, 10))
            .refusesWith(Check.NO, 3, 1000001, 4, 1000001).refusesWith(Check.NO, 3, -1, 4, -1)
            .refusesWith(Check.NO, 3, -1, 4, -2).holds();
        line("goods", (d, v) -> d.goods(v[0], v[1], v[2], v[3]), 1, 1, 1, 5)
            .takes(3, 0, 20).takesAll(2, 0, 0, 5).takesAll(2, 1, 0, 6)
            .refusesBeyond(0, 0, 15).refusesBeyond(1, 0, 3).refusesBeyond(2, 0, 239).refusesHeld()
            .refusesAfter(Check.MISSING, 2, d -> d.counts(1, 1, false))
            .refuses(Check.UNTOLD, 2, 2, 239).refuses(Check.UNTOLD, 1, 0, 2, 3)
            .refuses(Check.NO, 3, Check.beyond(0, 20)).holds();
        line("counts", (d, v) -> d.counts(v[0], v[1], v[2] != 0), 1, 1, 1)
            .takes(0, 0, 2, 3, 4).takes(1, 0, 3).takes(2, 0)
            .refusesBeyond(0, 0, 15).refusesBeyond(1, 0, 3).refusesHeld().holds();
        line("told", (d, v) -> d.told(v[0], v[1], v[2], v[3]), 1, 1, 1, 1)
            .takes(3, 0, 2).takes(2, 0).takesAll(2, 0, 0, 0)
            .refusesBeyond(0, 0, 15).refusesBeyond(1, 0, 3).refusesBeyond(2, 0, 239).refusesHeld()
            .refusesAfter(Check.MISSING, 2, d -> d.counts(1, 1, false))
            .refuses(Check.UNTOLD, 2, 2, 239).refuses(Check.UNTOLD, 1, 0, 2, 3)
            .refuses(Check.NO, 3, Check.beyond(0, 2)).holds();
    }

    private static void left() {
        line("left", (d, v) -> d.left(v[0], v[1]), 1, 1)
            .takes(1, 0).takesAll(2, 0)
            .refusesBeyond(0, 0, 15).refusesBeyond(1, 0, 239).refusesHeld(NOT_STEPPED)
            .refusesAfter(Check.MISSING, 2, d -> d.counts(1, 1, false))
            .refuses(Check.UNTOLD, 1, 2, 3, 239).refuses(Check.UNTOLD, 0, 7).holds();
    }
}
