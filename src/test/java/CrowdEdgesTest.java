/** Promises 35 to 40: callers in numbers, IMAGES and status(), at their ends. */
public final class CrowdEdgesTest {
    private static final Check c = new Check();

    public static void main(String[] args) {
        crowdsOfEachSize();
        crowdsUpToTheLastNumber();
        crowdsWithTheCallersMarks();
        everyWay();
        bothOfOne();
        movesOfEachSize();
        movesUpToAnother();
        movesUpToTheLastSeat();
        movesOfWhatIsNotBySeat();
        movesLeaveAllAsItIs();
        imageOfEachNumber();
        imageOfNothing();
        imageIsApart();
        imageOfTheLastOnes();
        imageOfABudget();
        imageLeavesTheRest();
        restoredHangsAsItDid();
        statusOfEachWord();
        statusOfNoWord();
        c.end();
    }

    private static LadderDesk plain(int first, int size) {
        LadderDesk d = new LadderDesk();
        d.make(0, Check.PLAIN, 1, 0);
        d.share(0, 1, first, size);
        return d;
    }

    private static void crowdsOfEachSize() {
        LadderDesk d = plain(0, 10000);
        for (int n : new int[] {1, 2, 1999, 2000}) {
            c.due("among", d.among(0, 1, 0, n), n);
            c.due("both", d.both(0, 0, 0, n), n);
            c.due("moves", d.moves(0, 0, 0, n), n);
        }
        d = plain(100, 50);
        c.due("just ahead", d.among(0, 1, 0, 100), 0);
        c.due("the first", d.among(0, 1, 0, 101), 1);
        c.due("the last", d.among(0, 1, 149, 2000), 1);
        c.due("just behind", d.among(0, 1, 150, 2000), 0);
        c.due("just ahead", d.moves(0, 0, 0, 100), 0);
        c.due("the first", d.moves(0, 0, 0, 101), 1);
        c.due("just behind", d.moves(0, 0, 150, 2000), 0);
        c.due("just ahead", d.both(0, 0, 0, 100), 0);
        c.due("the first", d.both(0, 0, 0, 101), 1);
        c.due("the last", d.both(0, 0, 149, 2000), 1);
        c.due("just behind", d.both(0, 0, 150, 2000), 0);
    }

    private static void crowdsUpToTheLastNumber() {
        LadderDesk d = plain(9999, 1);
        int[][] taken = {{999999, 1}, {999998, 2}, {998000, 2000}, {998001, 1999}};
        for (int[] n : taken) {
            c.due("the last NUMBER is among them", d.among(0, 1, n[0], n[1]), 1);
            c.due("the last NUMBER is among them", d.both(0, 0, n[0], n[1]), 1);
            c.due("the last NUMBER is among them", d.moves(0, 0, n[0], n[1]), 1);
        }
        int[][] refused = {{999999, 2}, {999998, 3}, {998001, 2000}, {999999, 2000}, {0, 2001}, {0, Check.MOST}, {0, 0},
            {999999, 0}, {999999, Check.MOST}, {648351, Check.MOST - 648350}};
        for (int[] n : refused) {
            c.due("among " + n[0] + ", " + n[1], d.among(0, 1, n[0], n[1]), Check.NO);
            c.due("both " + n[0] + ", " + n[1], d.both(0, 0, n[0], n[1]), Check.NO);
            c.due("moves " + n[0] + ", " + n[1], d.moves(0, 0, n[0], n[1]), Check.NO);
        }
    }

    private static void crowdsWithTheCallersMarks() {
        LadderDesk d = plain(0, 10000);
        d.rule(0, 0, 15, 15, 2);
        d.rule(0, 1, 4000, 4000, 3);
        d.rule(0, 2, 7, 7, 4);
        int[][] cases = {{14, 3999, 6, 1}, {15, 0, 0, 2}, {0, 4000, 0, 3}, {0, 0, 7, 4}};
        for (int[] n : cases) {
            d.caller(55, n[0], n[1], n[2]);
            for (int way = 0; way <= 7; way++) {
                c.due("WAY " + way, d.among(0, way, 0, 9), way == n[3] ? 9 : 0);
            }
            c.due("both", d.both(0, 0, 0, 9), n[3] == 1 ? 9 : 0);
            c.due("moves", d.moves(0, 0, 0, 9), n[3] == 1 ? 9 : 0);
            c.due("THE CALLER stays", d.seat(0), 55);
            c.due("THE CALLER stays", d.way(0), n[3]);
        }
    }

    private static void everyWay() {
        LadderDesk d = new LadderDesk();
        d.make(0, Check.PLAIN, 1, 0);
        for (int way = 1; way <= 7; way++) {
            d.share(0, way, 100 * way, way);
        }
        for (int way = 1; way <= 7; way++) {
            c.due("WAY " + way, d.among(0, way, 0, 2000), way);
        }
        c.due("WAY 0", d.among(0, 0, 0, 2000), 2000 - 28);
    }

    private static void bothOfOne() {
        LadderDesk d = plain(0, 10);
        d.make(15, Check.TRIAL, 1, 0);
        d.share(15, 1, 9, 10);
        c.due("one SEAT of both", d.both(0, 15, 0, 2000), 1);
        c.due("one SEAT of both", d.both(15, 0, 0, 2000), 1);
        c.due("the same SWITCH", d.both(15, 15, 0, 2000), 10);
        d.share(15, 1, 10, 10);
        c.due("none of both", d.both(0, 15, 0, 2000), 0);
        d.share(15, 1, 0, 0);
        d.share(15, 2, 0, 10);
        c.due("another WAY", d.both(0, 15, 0, 2000), 0);
        c.due("another WAY", d.both(15, 0, 0, 2000), 0);
    }

    private static void movesOfEachSize() {
        LadderDesk d = plain(100, 50);
        for (int size = 0; size <= 120; size++) {
            c.due("size " + size, d.moves(0, size, 0, 2000), Math.abs(size - 50));
        }
        c.due("SEATS", d.shares(0, 1, 1), 50);
        d = plain(0, 0);
        c.due("none", d.moves(0, 0, 0, 2000), 0);
        c.due("one", d.moves(0, 1, 0, 2000), 1);
        c.due("all", d.moves(0, 10000, 0, 2000), 2000);
        c.due("one too many", d.moves(0, 10001, 0, 2000), Check.NO);
        c.due("one too few", d.moves(0, -1, 0, 2000), Check.NO);
    }

    private static void movesUpToAnother() {
        for (int way = 2; way <= 7; way++) {
            LadderDesk d = plain(100, 50);
            d.share(0, way, 200, 1);
            c.due("up to the other", d.moves(0, 100, 0, 2000), 50);
            c.due("over its only SEAT", d.moves(0, 101, 0, 2000), Check.NO);
            d.share(0, way, 99, 1);
            c.due("the other is just ahead", d.moves(0, 101, 0, 2000), 51);
            d.share(0, way, 160, 0);
            c.due("the other has none", d.moves(0, 101, 0, 2000), 51);
        }
        LadderDesk d = plain(0, 0);
        d.share(0, 2, 0, 10);
        c.due("0 SEATS go over none", d.moves(0, 0, 0, 2000), 0);
        c.due("one does", d.moves(0, 1, 0, 2000), Check.NO);
    }

    private static void movesUpToTheLastSeat() {
        LadderDesk d = plain(9999, 0);
        c.due("SEAT 9999", d.moves(0, 1, 9000, 2000), 1);
        c.due("beyond it", d.moves(0, 2, 9000, 2000), Check.NO);
        d = plain(1, 0);
        c.due("all but one", d.moves(0, 9999, 0, 2000), 1999);
        c.due("beyond it", d.moves(0, 10000, 0, 2000), Check.NO);
        c.due("near the end of an int", d.moves(0, Check.MOST, 0, 1), Check.NO);
        c.due("near the end of an int", d.moves(0, Check.LEAST, 0, 1), Check.NO);
    }

    private static void movesOfWhatIsNotBySeat() {
        LadderDesk d = plain(0, 100);
        d.make(1, Check.HANGING, 1, 0);
        d.share(1, 1, 0, 100);
        d.make(2, Check.STOP, 1, 0);
        d.hang(1, 0, 1);
        c.due("just those for whom it holds", d.moves(1, 200, 0, 2000), 0);
        c.due("just those for whom it holds", d.moves(1, 0, 0, 2000), 100);
        d.hang(1, 0, 0);
        c.due("just those for whom it holds", d.moves(1, 200, 0, 2000), 100);
        c.due("just those for whom it holds", d.moves(1, 0, 0, 2000), 0);
        d.hang(1, Check.NONE, 0);
        d.stop(2, 1 << 1, true);
        c.due("stopped", d.moves(1, 0, 0, 2000), 0);
        d.stop(2, 1 << 1, false);
        c.due("not stopped", d.moves(1, 0, 0, 2000), 100);
        d.rule(1, 0, 0, 0, 1);
        c.due("by a RULE", d.moves(1, 0, 0, 2000), 0);
        d.caller(0, 1, 0, 0);
        c.due("by no RULE", d.moves(1, 0, 0, 2000), 100);
    }

    private static void movesLeaveAllAsItIs() {
        LadderDesk d = new LadderDesk();
        d.make(0, Check.STEPPED, 1, 0);
        d.row(0, 1);
        d.step(0, 0, 100);
        d.grow(0, 0);
        c.due("one that STANDS", d.moves(0, 40, 0, 2000), 60);
        c.due("SEATS", d.shares(0, 1, 1), 100);
        c.due("STANDS", d.stands(0, 0), 0);
        c.due("among", d.among(0, 1, 0, 2000), 100);
    }

    private static void imageOfEachNumber() {
        LadderDesk d = new LadderDesk();
        for (int p = 0; p < 16; p++) {
            c.due("image", d.image(), p);
            d.make(p, p % 5, 1, 0);
        }
        c.due("all sixteen", d.image(), 16);
        for (int p = 0; p < 16; p++) {
            d.note(p, p);
            c.due("a NOTE is no SWITCH", d.image(), 15 - p);
            c.due("restore", d.restore(), 15 - p);
        }
        for (int p = 0; p < 16; p++) {
            c.due("NOTES are kept", d.read(p), p);
        }
    }

    private static void imageOfNothing() {
        LadderDesk d = new LadderDesk();
        c.due("there is none", d.restore(), Check.MISSING);
        c.due("there is none", d.restore(), Check.MISSING);
        d.make(0, Check.PLAIN, 1, 0);
        c.due("it changed nothing", d.holds(0), 0);
        d.empty(0);
        c.due("of nothing", d.image(), 0);
        d.make(0, Check.PLAIN, 1, 0);
        d.note(15, 1L);
        c.due("it is one", d.restore(), 0);
        c.due("holds", d.holds(0), Check.NONE);
        c.due("holds", d.holds(15), Check.NONE);
        c.due("refused", d.status(Check.MISSING), 2);
    }

    private static void imageIsApart() {
        LadderDesk d = plain(0, 5);
        d.count(0, 1, 239, 7, 0);
        c.due("image", d.image(), 1);
        for (int i = 0; i < 3; i++) {
            d.share(0, 1, 0, 6 + i);
            d.count(0, 1, 239, 8, 0);
            d.count(0, 1, i, 8, 0);
            d.rule(0, 0, 0, 0, 1);
            c.due("restore", d.restore(), 1);
            c.due("it stays", d.shares(0, 1, 1), 5);
            c.due("it stays", d.told(0, 1, 239, 0), 7);
            c.due("it stays", d.told(0, 1, i, 0), Check.UNTOLD);
            c.due("it stays", d.unrule(0), Check.MISSING);
        }
        d.empty(0);
        c.due("the one before goes", d.image(), 0);
        d.make(0, Check.PLAIN, 1, 0);
        c.due("restore", d.restore(), 0);
        c.due("holds", d.holds(0), Check.NONE);
    }

    /** The sixth RULE, WAY 7, STEP 19, MINUTE 239, each ROW of COUNTS: what stands last is kept, too. */
    private static void imageOfTheLastOnes() {
        LadderDesk d = new LadderDesk();
        d.make(15, Check.TRIAL, 9999, 9999);
        fillToTheLast(d, 1);
        c.due("image", d.image(), 1);
        d.make(15, Check.TRIAL, 1, 0);
        fillToTheLast(d, 2);
        c.due("restore", d.restore(), 1);
        c.due("a, b", d.seat(15), 9999);
        for (int age = 4; age <= 7; age++) {
            d.caller(0, 0, age, 0);
            c.due("the sixth RULE", d.why(15), age == 5 || age == 6 ? 6 : 0);
            c.due("the sixth RULE", d.way(15), age == 5 || age == 6 ? 1 : 0);
        }
        for (int i = 5; i >= 0; i--) {
            c.due("RULES", d.unrule(15), i);
        }
        for (int way = 1; way <= 7; way++) {
            c.due("first SEAT", d.shares(15, way, 0), 1000 * way + 1);
            c.due("SEATS", d.shares(15, way, 1), way + 1);
        }
        for (int i = 0; i < 20; i++) {
            c.due("STEP " + i, d.step(15, i, 0), i + 1);
        }
        for (int way = 0; way < 4; way++) {
            c.due("CALLS", d.told(15, way, 239, 0), 10 + way + 1);
            c.due("FAULTS", d.told(15, way, 239, 1), way + 1);
            c.due("GOODS", d.told(15, way, 239, 2), 5 + 1);
        }
    }

    private static void fillToTheLast(LadderDesk d, int by) {
        for (int i = 0; i < 5; i++) {
            d.rule(15, i % 3, 1, 3, 7);
        }
        d.rule(15, by, 6 - by, 5 + by, by);
        for (int way = 1; way <= 7; way++) {
            d.share(15, way, 1000 * way + by, way + by);
        }
        d.row(15, 20);
        for (int i = 0; i < 20; i++) {
            d.step(15, i, i + by);
        }
        for (int way = 0; way < 4; way++) {
            d.count(15, way, 239, 10 + way + by, way + by);
            d.goods(15, way, 239, 5 + by);
        }
    }

    private static void imageOfABudget() {
        for (boolean toNone : new boolean[] {true, false}) {
            LadderDesk d = new LadderDesk();
            d.make(0, Check.STEPPED, 1, 0);
            d.row(0, 3);
            d.count(0, 1, 0, 1, 0);
            for (int i = 0; i < 3; i++) {
                d.step(0, i, 10 * i + 10);
                d.grow(0, 0);
            }
            d.budget(0, 2, 5, 1000, toNone);
            d.waits(0, 7);
            d.image();
            d.budget(0, 60, 1000000, 1, !toNone);
            d.waits(0, 9);
            d.back(0);
            d.tear(0);
            d.restore();
            c.due("STANDS", d.stands(0, 0), 2);
            c.due("ENOUGH: not yet", d.count(0, 1, 1, 3, 3), 30);
            c.due("WINDOW, ENOUGH, PART: spent", d.count(0, 1, 1, 4, 1), toNone ? 0 : 20);
            c.due("WAIT", d.stands(0, 2), 9);
            c.due("once", d.stands(0, 3), 1);
            d.restore();
            c.due("it does not wait", d.stands(0, 2), 0);
            c.due("never", d.stands(0, 3), 0);
            c.due("WAIT", d.waits(0, 0), 7);
        }
    }

    /** THE CALLER, the RING and what was refused are no part of it. */
    private static void imageLeavesTheRest() {
        LadderDesk d = new LadderDesk();
        d.make(0, Check.HANGING, 1, 0);
        d.make(1, Check.HANGING, 1, 0);
        d.rule(0, 0, 3, 3, 1);
        d.rule(0, 1, 4, 4, 2);
        d.rule(0, 2, 5, 5, 3);
        d.image();
        for (int mark = 0; mark < 3; mark++) {
            d.caller(77, mark == 0 ? 3 : 0, mark == 1 ? 4 : 0, mark == 2 ? 5 : 0);
            d.hang(1, 1, 0);
            d.restore();
            c.due("NUMBER", d.seat(0), 77);
            c.due("MARK", d.way(0), mark + 1);
            c.due("RING", d.ring(0), 1);
            c.due("refused", d.status(Check.RING), mark + 1);
        }
        d.image();
        c.due("image() leaves them, too", d.seat(0), 77);
        c.due("image() leaves them, too", d.ring(0), 1);
        c.due("image() leaves them, too", d.status(Check.RING), 3);
    }

    private static void restoredHangsAsItDid() {
        LadderDesk d = plain(0, 10);
        d.make(1, Check.STOP, 1, 0);
        d.make(2, Check.PLAIN, 1, 0);
        d.share(2, 7, 0, 10000);
        d.hang(1, 0, 1);
        d.stop(1, 1 << 2, true);
        d.image();
        d.make(0, Check.HANGING, 1, 0);
        d.make(1, Check.HANGING, 1, 0);
        c.due("it hung on none any more", d.hang(0, 1, 0), 1);
        d.restore();
        c.due("the STOP is ON", d.why(2), 9);
        d.caller(10, 0, 0, 0);
        c.due("and hangs", d.why(2), 0);
        d.make(0, Check.HANGING, 1, 0);
        c.due("and is asked about RINGS", d.hang(0, 1, 0), Check.RING);
    }

    private static void statusOfEachWord() {
        LadderDesk d = new LadderDesk();
        for (int i = 1; i <= 3; i++) {
            d.seat(0);
            d.holds(16);
            c.due("MISSING", d.status(Check.MISSING), i);
            c.due("BEYOND", d.status(Check.BEYOND), i);
            for (int by = -13; by <= -4; by++) {
                c.due("no other", d.status(by), 0);
            }
        }
        d.read(0);
        d.read(-1);
        d.make(0, Check.PLAIN, 1, 0);
        d.read(0);
        c.due("read() by MISSING", d.status(Check.MISSING), 4);
        c.due("read() by BEYOND", d.status(Check.BEYOND), 4);
        c.due("read() by KIND", d.status(Check.KIND), 1);
    }

    private static void statusOfNoWord() {
        LadderDesk d = new LadderDesk();
        int refused = 0;
        for (int by : new int[] {-1, 0, 1, 2, 12, 13, 14, -14, -15, Check.LEAST, Check.LEAST + 1, Check.MOST}) {
            c.due("status " + by, d.status(by), Check.NO);
            refused++;
            c.due("it counts itself", d.status(Check.NO), refused);
        }
        c.due("the first word", d.status(-2), 0);
        c.due("the last word", d.status(-13), 0);
    }
}
