/** Promises 35 to 37. */
public final class NumbersTest {
    private static final Check c = new Check();

    public static void main(String[] args) {
        among();
        amongAsOneByOne();
        both();
        moves();
        movesWithCauses();
        crowdsAreRefused();
        sizesAreRefused();
        c.end();
    }

    private static void among() {
        LadderDesk d = new LadderDesk();
        d.make(0, Check.PLAIN, 1, 0);
        d.share(0, 7, 5, 10);
        d.caller(77, 3, 0, 0);
        c.due("one", d.among(0, 7, 5, 1), 1);
        c.due("one", d.among(0, 7, 4, 1), 0);
        c.due("all of it", d.among(0, 7, 0, 2000), 10);
        c.due("the rest", d.among(0, 0, 0, 2000), 1990);
        c.due("over the end of the SEATS", d.among(0, 7, 9999, 11), 5);
        c.due("the last", d.among(0, 0, 999999, 1), 1);
        c.due("the last ones", d.among(0, 0, 998000, 2000), 2000);
        d.rule(0, 0, 3, 3, 2);
        c.due("THE CALLER's MARKS", d.among(0, 2, 0, 2000), 2000);
        c.due("THE CALLER stays", d.seat(0), 77);
        d.caller(77, 4, 0, 0);
        c.due("THE CALLER's MARKS", d.among(0, 2, 0, 2000), 0);
    }

    private static void amongAsOneByOne() {
        LadderDesk d = busy();
        for (int place = 0; place < 5; place++) {
            int[] found = new int[8];
            for (int number = 400; number < 430; number++) {
                d.caller(number, 2, 30, 1);
                found[d.way(place)]++;
            }
            for (int way = 0; way < 8; way++) {
                c.due("among", d.among(place, way, 400, 30), found[way]);
            }
        }
    }

    /** All KINDS hang on one another, with STOPS. */
    private static LadderDesk busy() {
        LadderDesk d = new LadderDesk();
        d.make(0, Check.PLAIN, 3001, 17);
        d.make(1, Check.STEPPED, 7, 5000);
        d.make(2, Check.HANGING, 9, 3);
        d.make(3, Check.STOP, 1237, 999);
        d.make(4, Check.HANGING, 4321, 1);
        for (int place = 0; place < 5; place++) {
            d.share(place, 1, 0, 4000);
            d.share(place, 5, 5000, 3000);
        }
        d.rule(4, 1, 31, 40, 7);
        d.hang(2, 0, 1);
        d.hang(4, 2, 5);
        d.hang(3, 1, 5);
        d.stop(3, 1 << 2, true);
        return d;
    }

    private static void both() {
        LadderDesk d = new LadderDesk();
        d.make(0, Check.PLAIN, 1, 0);
        d.make(1, Check.STOP, 1, 0);
        d.share(0, 1, 10, 10);
        d.share(1, 1, 15, 10);
        d.share(1, 2, 0, 15);
        c.due("both", d.both(0, 1, 0, 2000), 5);
        c.due("both", d.both(1, 0, 0, 2000), 5);
        c.due("the same one", d.both(1, 1, 0, 2000), 10);
        c.due("one", d.both(0, 1, 15, 1), 1);
        c.due("one", d.both(0, 1, 14, 1), 0);
        d.stop(1, 1, true);
        c.due("stopped", d.both(0, 1, 0, 2000), 0);
        d.stop(1, 1, false);
        c.due("stopped no more", d.among(0, 1, 0, 2000), 10);
        d.stop(1, 1, true);
        c.due("stopped", d.moves(0, 0, 0, 2000), 0);
        d.stop(1, 1, false);
        c.due("stopped no more", d.moves(0, 0, 0, 2000), 10);
        d.stop(1, 1, true);
        c.due("stopped", d.among(0, 1, 0, 2000), 0);
    }

    private static void moves() {
        LadderDesk d = new LadderDesk();
        d.make(0, Check.PLAIN, 1, 0);
        d.share(0, 1, 100, 50);
        d.share(0, 2, 200, 50);
        c.due("as it is", d.moves(0, 50, 0, 2000), 0);
        c.due("none", d.moves(0, 0, 0, 2000), 50);
        c.due("fewer", d.moves(0, 20, 0, 2000), 30);
        c.due("more", d.moves(0, 100, 0, 2000), 50);
        c.due("some of them", d.moves(0, 100, 160, 10), 10);
        c.due("over the other", d.moves(0, 101, 0, 2000), Check.NO);
        c.due("nothing has changed", d.shares(0, 1, 1), 50);
        d.share(0, 2, 0, 0);
        c.due("up to the end", d.moves(0, 9900, 9990, 20), 10);
        c.due("beyond", d.moves(0, 9901, 0, 1), Check.NO);
        d.share(0, 1, 0, 0);
        c.due("all", d.moves(0, 10000, 0, 2000), 2000);
    }

    private static void movesWithCauses() {
        LadderDesk d = busy();
        d.caller(0, 2, 35, 1);
        c.due("a RULE", d.moves(4, 0, 0, 2000), 0);
        LadderDesk then = busy();
        then.share(2, 1, 0, 4999);
        int found = 0;
        int seated = 0;
        for (int number = 400; number < 500; number++) {
            d.caller(number, 2, 30, 1);
            then.caller(number, 2, 30, 1);
            found += d.way(2) == then.way(2) ? 0 : 1;
            seated += d.seat(2) >= 4000 && d.seat(2) < 4999 ? 1 : 0;
        }
        c.dueThat("some of those that sit there move, not all", found > 0 && found < seated);
        d = busy();
        d.caller(0, 2, 30, 1);
        c.due("STOPS and hanging", d.moves(2, 4999, 400, 100), found);
        d.make(5, Check.STEPPED, 1, 0);
        d.row(5, 1);
        d.step(5, 0, 100);
        d.grow(5, 0);
        c.due("one that STANDS on a STEP", d.moves(5, 50, 0, 1000), 50);
    }

    private static void crowdsAreRefused() {
        LadderDesk d = Check.ofEachKind();
        for (int place : new int[] {-1, 16, Check.LEAST, Check.MOST}) {
            allAnswer(d, place, 0, -1, Check.BEYOND);
        }
        for (int first : new int[] {-1, 1000000, Check.LEAST, Check.MOST}) {
            allAnswer(d, 0, first, -1, Check.BEYOND);
            allAnswer(d, 6, first, -1, Check.BEYOND);
        }
        allAnswer(d, 6, 0, -1, Check.MISSING);
        allAnswer(d, 5, 0, -1, Check.KIND);
        allAnswer(d, 0, 0, -1, Check.BELOW);
        allAnswer(d, 0, 999999, Check.LEAST, Check.BELOW);
        allAnswer(d, 0, 0, 0, Check.NO);
        allAnswer(d, 0, 0, 2001, Check.NO);
        allAnswer(d, 0, 999999, 2, Check.NO);
        allAnswer(d, 0, 998001, 2000, Check.NO);
        allAnswer(d, 0, 0, Check.MOST, Check.NO);
        allAnswer(d, 0, 999999, Check.MOST, Check.NO);
        for (int way : new int[] {-1, 8, Check.LEAST, Check.MOST}) {
            c.due("way", d.among(0, way, 0, 1), Check.BEYOND);
            c.due("way", d.among(6, way, 0, -1), Check.BEYOND);
        }
        c.due("BEYOND goes ahead", d.both(6, 16, 0, -1), Check.BEYOND);
        c.due("BEYOND goes ahead", d.both(5, -1, 0, -1), Check.BEYOND);
        c.due("BEYOND goes ahead", d.both(16, 6, 0, -1), Check.BEYOND);
        c.due("BEYOND goes ahead", d.both(-1, 5, 0, -1), Check.BEYOND);
        c.due("MISSING of the other goes ahead of KIND", d.both(5, 6, 0, -1), Check.MISSING);
        c.due("MISSING goes ahead of KIND of the other", d.both(6, 5, 0, -1), Check.MISSING);
        c.due("nothing at both", d.both(6, 7, 0, -1), Check.MISSING);
        c.due("NOTES at both", d.both(5, 5, 0, -1), Check.KIND);
        c.due("other", d.both(0, 6, 0, -1), Check.MISSING);
        c.due("other", d.both(0, 5, 0, -1), Check.KIND);
    }

    private static void allAnswer(LadderDesk d, int place, int first, int n, int due) {
        c.due("among", d.among(place, 0, first, n), due);
        c.due("both", d.both(place, 1, first, n), due);
        c.due("both", d.both(1, place, first, n), due);
        c.due("moves", d.moves(place, -1, first, n), due);
    }

    private static void sizesAreRefused() {
        LadderDesk d = Check.ofEachKind();
        for (int size : new int[] {-1, 10001, Check.LEAST, Check.MOST}) {
            c.due("size", d.moves(0, size, 0, 1), Check.NO);
            c.due("n goes ahead", d.moves(0, size, 0, -1), Check.BELOW);
        }
    }
}
