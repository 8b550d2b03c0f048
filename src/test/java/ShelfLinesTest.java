/** The lines of refusals of promises 2 to 17: the last numbers taken, the first refused, and which goes ahead. */
public final class ShelfLinesTest {
    private static final Check c = new Check();

    public static void main(String[] args) {
        callers();
        whatPlacesHold();
        rules();
        shares();
        hang();
        stop();
        ring();
        c.end();
    }

    private static Line line(String name, Line.Call call, int... base) {
        return new Line(c, name, call, base);
    }

    private static void callers() {
        line("caller", (d, v) -> d.caller(v[0], v[1], v[2], v[3]), 5, 1, 2, 3)
            .takes(0, 0, 999999).takes(1, 0, 15).takes(2, 0, 4000).takes(3, 0, 7)
            .refusesBeyond(0, 0, 999999).refusesBeyond(1, 0, 15).refusesBeyond(2, 0, 4000).refusesBeyond(3, 0, 7)
            .holds();
        line("seat", (d, v) -> d.seat(v[0]), 0)
            .takes(0, 1, 2, 3, 4).refusesBeyond(0, 0, 15).refusesHeld().holds();
        line("way", (d, v) -> d.way(v[0]), 0)
            .takes(0, 1, 2, 3, 4).refusesBeyond(0, 0, 15).refusesHeld().holds();
        line("why", (d, v) -> d.why(v[0]), 0)
            .takes(0, 1, 2, 3, 4).refusesBeyond(0, 0, 15).refusesHeld().holds();
    }

    private static void whatPlacesHold() {
        line("make", (d, v) -> d.make(v[0], v[1], v[2], v[3]), 0, 1, 3, 5)
            .takes(0, 5, 6, 15).takes(1, 0, 4).takes(2, 1, 7, 9999).takes(3, 0, 9999)
            .refusesBeyond(0, 0, 15)
            .refuses(Check.NO, 1, Check.beyond(0, 4))
            .refuses(Check.NO, 2, Check.beyond(1, 9999)).refuses(Check.NO, 2, 2, 5, 10, 9995, 9998, 10001, -1, -3)
            .refuses(Check.NO, 3, Check.beyond(0, 9999)).holds();
        line("note", (d, v) -> d.note(v[0], 7L), 5).takes(0, 0, 6, 15).refusesBeyond(0, 0, 15).holds();
        line("empty", (d, v) -> d.empty(v[0]), 5).takes(0, 0, 6, 15).refusesBeyond(0, 0, 15).holds();
        line("holds", (d, v) -> d.holds(v[0]), 5).takes(0, 0, 6, 15).refusesBeyond(0, 0, 15).holds();
        line("read", (d, v) -> d.read(v[0]), Check.NOTE).answeringZero().refusesBeyond(0, 0, 15)
            .refuses(Check.MISSING, 0, Check.NOTHING, 15).refuses(Check.KIND, 0, 0, 1, 2, 3, 4).holds();
    }

    private static void fillRules(LadderDesk d) {
        for (int i = 0; i < 3; i++) {
            d.rule(0, 0, 4, 4, 0);
        }
    }

    private static void dropRules(LadderDesk d) {
        for (int i = 0; i < 3; i++) {
            d.unrule(0);
        }
    }

    private static void rules() {
        line("rule", (d, v) -> d.rule(v[0], v[1], v[2], v[3], v[4]), 0, 1, 2, 3, 4)
            .takes(0, 1, 2, 3, 4).takes(1, 0, 2).takes(4, 0, 7)
            .takes(2, Check.LEAST, Check.MOST).takes(3, Check.LEAST, Check.MOST)
            .refusesBeyond(0, 0, 15).refusesBeyond(1, 0, 2).refusesBeyond(4, 0, 7).refusesHeld()
            .refusesAfter(Check.FULL, 1, ShelfLinesTest::fillRules).holds();
        line("unrule", (d, v) -> d.unrule(v[0]), 0).takes(0, 1, 2, 3, 4)
            .refusesBeyond(0, 0, 15).refusesHeld().refusesAfter(Check.MISSING, 1, ShelfLinesTest::dropRules).holds();
    }

    private static void shares() {
        line("share", (d, v) -> d.share(v[0], v[1], v[2], v[3]), 0, 3, 500, 10)
            .takes(0, 1, 2, 3, 4).takes(1, 1, 7).takes(2, 0, 90, 150, 9990).takes(3, 0, 9500)
            .takesAll(0, 3, 9999, 1).takesAll(0, 3, 9999, 0).takesAll(1, 2, 500, 10)
            .refusesBeyond(0, 0, 15).refusesBeyond(1, 1, 7).refusesHeld()
            .refuses(Check.BELOW, 3, -1, Check.LEAST)
            .refuses(Check.NO, 2, 91, 149, 9991).refuses(Check.NO, 2, Check.beyond(0, 9999))
            .refuses(Check.NO, 3, 9501, 10001, Check.MOST, Check.MOST - 499, Check.MOST - 500)
            .refusesWith(Check.NO, 0, 1, 1, 1).refusesWith(Check.NO, 0, 7, 1, 1).holds();
        line("shares", (d, v) -> d.shares(v[0], v[1], v[2]), 0, 1, 0)
            .takes(0, 1, 2, 3, 4).takes(1, 1, 7).takes(2, 0, 1)
            .refusesBeyond(0, 0, 15).refusesBeyond(1, 1, 7).refusesHeld()
            .refuses(Check.NO, 2, Check.beyond(0, 1)).holds();
    }

    /** PLACE 1 asks 3 by that. */
    private static void stopAskingBack(LadderDesk d) {
        d.stop(4, 0, false);
        d.hang(4, 3, 0);
        d.stop(4, 1 << 1, false);
    }

    private static void hang() {
        line("hang", (d, v) -> d.hang(v[0], v[1], v[2]), 3, 1, 2)
            .takes(0, 4).takes(1, Check.NONE, 0, 2, 4, 7).takes(2, 0, 7)
            .takesAll(3, Check.NONE, -1).takesAll(3, Check.NONE, 8)
            .takesAll(4, Check.NONE, Check.LEAST).takesAll(4, Check.NONE, Check.MOST)
            .refusesBeyond(0, 0, 15).refuses(Check.BEYOND, 1, -2, 16, Check.LEAST, Check.MOST).refusesBeyond(2, 0, 7)
            .refuses(Check.MISSING, 0, Check.NOTHING, 15).refuses(Check.MISSING, 1, Check.NOTHING, 15)
            .refuses(Check.KIND, 0, 0, 1, 2, Check.NOTE).refuses(Check.KIND, 1, Check.NOTE)
            .refuses(Check.RING, 1, 3).refusesAfter(Check.RING, 2, ShelfLinesTest::stopAskingBack).holds();
        line("hang on NONE", (d, v) -> d.hang(v[0], Check.NONE, v[1]), 3, Check.MOST)
            .refusesBeyond(0, 0, 15).refusesHeld(0, 1, 2).holds();
    }

    /** PLACE 0 would ask itself. */
    private static void hangOnWhatIsStopped(LadderDesk d) {
        d.stop(4, 0, false);
        d.hang(4, 0, 1);
    }

    private static void stop() {
        line("stop", (d, v) -> d.stop(v[0], v[1], v[2] != 0), 4, 1, 1)
            .takes(1, 0, 1 << 15, 0xFFFF & ~(1 << 4 | 1 << 1)).takes(2, 0)
            .refusesBeyond(0, 0, 15).refusesHeld(0, 1, 2, 3)
            .refuses(Check.NO, 1, 1 << 16 | 1, 1 << 4 | 1, 0xFFFF, -1, Check.LEAST | 1, Check.MOST, 1 << 30 | 1)
            .refuses(Check.RING, 1, 1 << 1 | 1)
            .refusesAfter(Check.RING, 2, ShelfLinesTest::hangOnWhatIsStopped).holds();
    }

    private static void ring() {
        line("ring", (d, v) -> d.ring(v[0]), 0).refusesBeyond(0, 0, 0).refuses(Check.BEYOND, 0, 15, 16).holds();
        LadderDesk d = new LadderDesk();
        for (int i : new int[] {-1, 0, 1, 15, 16, Check.LEAST, Check.MOST}) {
            c.due("none was refused yet", d.ring(i), Check.BEYOND);
        }
        c.due("all were counted", d.status(Check.BEYOND), 7);
    }
}
