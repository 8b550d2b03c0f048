/** The lines of refusals of promises 32 to 40: the last numbers taken, the first refused, and which goes ahead. */
public final class TrialLinesTest {
    private static final Check c = new Check();
    /** PLACES whose SWITCH is no TRIAL, a STEPPED one among them. */
    private static final int[] NO_TRIALS = {0, 1, 3, 4};

    public static void main(String[] args) {
        trial();
        look();
        trialTold();
        among();
        both();
        moves();
        all();
        c.end();
    }

    private static Line line(String name, Line.Call call, int... base) {
        return new Line(c, name, call, base);
    }

    private static void trial() {
        line("trial", (d, v) -> d.trial(v[0], v[1], v[2], v[3], v[4]), 2, 1, 2, 400, 7)
            .takes(1, 0, 3).takes(2, 0, 3).takes(3, 1, 5000).takes(4, 1, 20)
            .refusesBeyond(0, 0, 15).refusesBeyond(1, 0, 3).refusesBeyond(2, 0, 3).refusesHeld(NO_TRIALS)
            .refusesWith(Check.NO, 1, 2, 2, 2).refusesWith(Check.NO, 1, 0, 2, 0).refusesWith(Check.NO, 1, 3, 2, 3)
            .refuses(Check.NO, 3, Check.beyond(1, 5000)).refuses(Check.NO, 4, Check.beyond(1, 20)).holds();
    }

    private static void endIt(LadderDesk d) {
        for (int i = 0; i < 4; i++) {
            d.look(2, 0);
        }
    }

    private static void look() {
        line("look", (d, v) -> d.look(v[0], v[1]), 2, 0)
            .takes(1, 239)
            .refusesBeyond(0, 0, 15).refusesBeyond(1, 0, 239).refusesHeld(NO_TRIALS)
            .refusesAfter(Check.MISSING, 1, d -> d.counts(2, 0, false))
            .refusesAfter(Check.MISSING, 1, d -> d.counts(2, 1, false))
            .refusesAfterEarly(Check.NO, 1, TrialLinesTest::endIt)
            .refusesAfter(Check.UNTOLD, 1, d -> d.count(2, 0, 0, 0, 0))
            .refusesAfter(Check.FULL, 1, d -> d.count(2, 1, 0, 31, 0)).holds();
        line("look at the other", (d, v) -> d.look(2, v[0]), 0)
            .refusesAfter(Check.UNTOLD, 1, d -> d.count(2, 1, 0, 0, 0))
            .refusesAfter(Check.FULL, 1, d -> d.count(2, 0, 0, 31, 0)).holds();
    }

    private static void trialTold() {
        line("trialTold", (d, v) -> d.trialTold(v[0], v[1]), 2, 3)
            .takes(1, 0, 6)
            .refusesBeyond(0, 0, 15).refusesHeld(NO_TRIALS).refuses(Check.NO, 1, Check.beyond(0, 6)).holds();
    }

    /** first and n are the last two of four numbers. */
    private static Line takingCrowds(Line line) {
        return line.takes(2, 0, 999980).takes(3, 1, 2000)
            .takesWith(2, 999999, 3, 1).takesWith(2, 998000, 3, 2000);
    }

    private static Line refusingCrowds(Line line) {
        return line.refuses(Check.BELOW, 3, -1, Check.LEAST)
            .refuses(Check.NO, 2, 999981, 999999).refuses(Check.NO, 3, 0, 2001, Check.MOST)
            .refusesWith(Check.NO, 2, 999999, 3, 2).refusesWith(Check.NO, 2, 998001, 3, 2000)
            .refusesWith(Check.NO, 2, 999999, 3, Check.MOST);
    }

    private static void among() {
        Line line = takingCrowds(line("among", (d, v) -> d.among(v[0], v[1], v[2], v[3]), 0, 1, 5, 20))
            .takes(0, 1, 2, 3, 4).takes(1, 0, 7)
            .refusesBeyond(0, 0, 15).refusesBeyond(1, 0, 7).refusesBeyond(2, 0, 999999).refusesHeld();
        refusingCrowds(line).holds();
    }

    private static void both() {
        Line line = takingCrowds(line("both", (d, v) -> d.both(v[0], v[1], v[2], v[3]), 0, 3, 5, 20))
            .takes(0, 1, 2, 3, 4).takes(1, 0, 1, 2, 4)
            .refusesBeyond(0, 0, 15).refusesBeyond(1, 0, 15).refusesBeyond(2, 0, 999999)
            .refuses(Check.MISSING, 0, Check.NOTHING).refuses(Check.MISSING, 1, Check.NOTHING)
            .refuses(Check.KIND, 0, Check.NOTE).refuses(Check.KIND, 1, Check.NOTE);
        refusingCrowds(line).holds();
    }

    private static void moves() {
        Line line = takingCrowds(line("moves", (d, v) -> d.moves(v[0], v[1], v[2], v[3]), 0, 7, 5, 20))
            .takes(0, 1, 2, 3, 4).takes(1, 0, 88)
            .refusesBeyond(0, 0, 15).refusesBeyond(2, 0, 999999).refusesHeld();
        refusingCrowds(line)
            .refuses(Check.NO, 1, 89, 9988, 9989, 10000).refuses(Check.NO, 1, Check.beyond(0, 10000))
            .refuses(Check.NO, 1, Check.MOST - 11, Check.MOST - 12).holds();
    }

    private static void all() {
        line("image", (d, v) -> d.image()).holds();
        line("restore", (d, v) -> d.restore()).holds();
        line("restore without an IMAGE", (d, v) -> v[0] == 0 ? d.image() : d.restore(), 0)
            .on(Rich::withoutImage).refuses(Check.MISSING, 0, 1).holds();
        line("status", (d, v) -> d.status(v[0]), -5)
            .takes(0, -2, -13).refuses(Check.NO, 0, -1, -14, 0, 1, 2, 13, Check.LEAST, Check.MOST, -Check.MOST).holds();
    }
}
