/** Promises 27 to 31. */
public final class CountsTest {
    private static final Check c = new Check();

    public static void main(String[] args) {
        countIsTold();
        countIsRefused();
        goods();
        countsAreMissing();
        rowsAreApart();
        told();
        left();
        leftIsRefused();
        leftBelowZeroIsNoRefusal();
        c.end();
    }

    private static void countIsTold() {
        LadderDesk d = Check.ofEachKind();
        for (int place = 0; place < 5; place++) {
            d.share(place, 1, 0, 100 + place);
            c.due("how many SEATS", d.count(place, 1, 0, 10, 10), 100 + place);
            c.due("CALLS", d.told(place, 1, 0, 0), 10);
            c.due("FAULTS", d.told(place, 1, 0, 1), 10);
            c.due("GOODS", d.told(place, 1, 0, 2), 0);
        }
        c.due("most", d.count(0, 3, 239, 1000000, 1000000), 100);
        c.due("CALLS", d.told(0, 3, 239, 0), 1000000);
        c.due("none", d.count(0, 0, 0, 0, 0), 100);
        c.due("CALLS", d.told(0, 0, 0, 0), 0);
        d.goods(0, 1, 0, 7);
        d.count(0, 1, 0, 9, 2);
        c.due("told again", d.told(0, 1, 0, 0), 9);
        c.due("GOODS are 0 again", d.told(0, 1, 0, 2), 0);
    }

    private static void countIsRefused() {
        LadderDesk d = Check.ofEachKind();
        d.count(0, 1, 5, 4, 3);
        for (int place : new int[] {-1, 16, Check.LEAST, Check.MOST}) {
            c.due("place", d.count(place, 0, 0, -1, 0), Check.BEYOND);
        }
        for (int way : new int[] {-1, 4, 7, Check.LEAST, Check.MOST}) {
            c.due("way", d.count(0, way, 0, -1, 0), Check.BEYOND);
            c.due("way", d.count(6, way, 0, -1, 0), Check.BEYOND);
        }
        for (int minute : new int[] {-1, 240, Check.LEAST, Check.MOST}) {
            c.due("minute", d.count(0, 0, minute, -1, 0), Check.BEYOND);
            c.due("minute", d.count(5, 0, minute, -1, 0), Check.BEYOND);
        }
        c.due("nothing", d.count(6, 0, 0, -1, 0), Check.MISSING);
        c.due("NOTE", d.count(5, 0, 0, -1, 0), Check.KIND);
        int[][] none = {{-1, 0}, {-1, -1}, {0, -1}, {1000001, 0}, {5, 6}, {1000001, 1000001}, {Check.LEAST, 0},
            {Check.MOST, 0}, {0, Check.LEAST}, {0, Check.MOST}};
        for (int[] n : none) {
            c.due("numbers", d.count(0, 1, 5, n[0], n[1]), Check.NO);
        }
        c.due("what was told stays", d.told(0, 1, 5, 0), 4);
        d.counts(0, 1, false);
        c.due("the ROW goes ahead of the numbers", d.count(0, 1, 5, -1, 0), Check.MISSING);
    }

    private static void goods() {
        LadderDesk d = Check.ofEachKind();
        d.count(0, 3, 239, 8, 2);
        c.due("most", d.goods(0, 3, 239, 8), 1);
        c.due("GOODS", d.told(0, 3, 239, 2), 8);
        c.due("least", d.goods(0, 3, 239, 0), 1);
        c.due("GOODS", d.told(0, 3, 239, 2), 0);
        d.goods(0, 3, 239, 4);
        for (int n : new int[] {-1, 9, Check.LEAST, Check.MOST}) {
            c.due("goods", d.goods(0, 3, 239, n), Check.NO);
            c.due("UNTOLD goes ahead", d.goods(0, 3, 238, n), Check.UNTOLD);
            c.due("NOTE", d.goods(5, 0, 0, n), Check.KIND);
            c.due("nothing", d.goods(6, 0, 0, n), Check.MISSING);
            c.due("place", d.goods(16, 0, 0, n), Check.BEYOND);
            c.due("way", d.goods(6, 4, 0, n), Check.BEYOND);
            c.due("way", d.goods(6, -1, 0, n), Check.BEYOND);
            c.due("minute", d.goods(6, 0, 240, n), Check.BEYOND);
            c.due("minute", d.goods(6, 0, -1, n), Check.BEYOND);
        }
        c.due("GOODS stay", d.told(0, 3, 239, 2), 4);
        c.due("CALLS stay", d.told(0, 3, 239, 0), 8);
        c.due("FAULTS stay", d.told(0, 3, 239, 1), 2);
        d.counts(0, 3, false);
        c.due("the ROW goes ahead of UNTOLD", d.goods(0, 3, 1, 0), Check.MISSING);
        d.count(0, 0, 0, 0, 0);
        c.due("none of none", d.goods(0, 0, 0, 0), 1);
        c.due("one of none", d.goods(0, 0, 0, 1), Check.NO);
    }

    private static void countsAreMissing() {
        LadderDesk d = Check.ofEachKind();
        for (int way = 0; way < 4; way++) {
            d.count(0, way, 7, 3, 0);
            c.due("there at first", d.counts(0, way, true), 1);
            c.due("there anew", d.told(0, way, 7, 0), Check.UNTOLD);
            d.count(0, way, 7, 3, 0);
            c.due("it was there", d.counts(0, way, false), 1);
            c.due("it was not", d.counts(0, way, false), 0);
            c.due("missing", d.told(0, way, 7, 0), Check.MISSING);
            c.due("it was not", d.counts(0, way, true), 0);
            c.due("there anew", d.told(0, way, 7, 0), Check.UNTOLD);
            c.due("it can be told", d.count(0, way, 9, 1, 0), 0);
            c.due("one ahead of it is not told", d.told(0, way, 7, 0), Check.UNTOLD);
        }
        c.due("place", d.counts(16, 0, true), Check.BEYOND);
        c.due("place", d.counts(-1, 0, true), Check.BEYOND);
        c.due("way", d.counts(6, 4, true), Check.BEYOND);
        c.due("way", d.counts(6, -1, true), Check.BEYOND);
        c.due("nothing", d.counts(6, 0, true), Check.MISSING);
        c.due("NOTE", d.counts(5, 0, false), Check.KIND);
        for (int place = 1; place < 5; place++) {
            c.due("each KIND", d.counts(place, 0, false), 1);
        }
    }

    private static void rowsAreApart() {
        LadderDesk d = Check.ofEachKind();
        for (int way = 0; way < 4; way++) {
            d.count(0, way, 10, 100 + way, 50 + way);
            d.goods(0, way, 10, 20 + way);
        }
        d.counts(0, 2, false);
        for (int way = 0; way < 4; way++) {
            int gone = way == 2 ? Check.MISSING : 0;
            c.due("CALLS", d.told(0, way, 10, 0), gone == 0 ? 100 + way : gone);
            c.due("FAULTS", d.told(0, way, 10, 1), gone == 0 ? 50 + way : gone);
            c.due("GOODS", d.told(0, way, 10, 2), gone == 0 ? 20 + way : gone);
            c.due("another PLACE's", d.told(1, way, 10, 2), Check.UNTOLD);
        }
    }

    private static void told() {
        LadderDesk d = Check.ofEachKind();
        d.count(0, 0, 100, 1, 1);
        for (int what : new int[] {-1, 3, Check.LEAST, Check.MOST}) {
            c.due("what", d.told(0, 0, 100, what), Check.NO);
            c.due("UNTOLD goes ahead", d.told(0, 0, 99, what), Check.UNTOLD);
            c.due("UNTOLD goes ahead", d.told(0, 0, 101, what), Check.UNTOLD);
            c.due("NOTE", d.told(5, 0, 100, what), Check.KIND);
            c.due("nothing", d.told(6, 0, 100, what), Check.MISSING);
            c.due("place", d.told(16, 0, 100, what), Check.BEYOND);
            c.due("way", d.told(6, 4, 100, what), Check.BEYOND);
            c.due("minute", d.told(5, 0, 240, what), Check.BEYOND);
            c.due("minute", d.told(5, 0, -1, what), Check.BEYOND);
        }
    }

    private static void left() {
        LadderDesk d = Check.ofEachKind();
        d.budget(1, 2, 1000000, 333, false);
        d.count(1, 1, 0, 100, 1);
        c.due("ENOUGH does not matter; cut", d.left(1, 0), 2);
        d.count(1, 1, 1, 110, 3);
        c.due("6.993 less 4", d.left(1, 1), 2);
        c.due("not told", d.left(1, 2), Check.UNTOLD);
        d.count(1, 1, 2, 0, 0);
        c.due("3.663 less 3", d.left(1, 2), 0);
        d.count(1, 1, 239, 3, 3);
        c.due("not told", d.left(1, 239), Check.UNTOLD);
        d.budget(1, 60, 0, 10000, false);
        for (int m = 60; m < 120; m++) {
            d.count(1, 1, m, 1000000, 0);
        }
        c.due("beyond an int", d.left(1, 119), 60000000);
        c.due("one is not told", d.left(1, 118), Check.UNTOLD);
        c.due("a TRIAL", d.left(2, 0), Check.UNTOLD);
        d.count(2, 1, 0, 0, 0);
        c.due("no CALLS", d.left(2, 0), 0);
    }

    private static void leftIsRefused() {
        LadderDesk d = Check.ofEachKind();
        for (int minute : new int[] {-1, 240, Check.LEAST, Check.MOST}) {
            c.due("minute", d.left(1, minute), Check.BEYOND);
            c.due("minute", d.left(0, minute), Check.BEYOND);
        }
        c.due("place", d.left(16, 0), Check.BEYOND);
        c.due("place", d.left(-1, 0), Check.BEYOND);
        c.due("nothing", d.left(6, 0), Check.MISSING);
        for (int place : new int[] {0, 3, 4, 5}) {
            c.due("KIND", d.left(place, 0), Check.KIND);
        }
        d.counts(1, 0, false);
        c.due("another WAY's ROW", d.left(1, 0), Check.UNTOLD);
        d.counts(1, 1, false);
        c.due("the ROW", d.left(1, 0), Check.MISSING);
    }

    private static void leftBelowZeroIsNoRefusal() {
        LadderDesk d = Check.ofEachKind();
        d.budget(1, 1, 0, 0, false);
        for (int faults = 2; faults <= 13; faults++) {
            d.count(1, 1, 0, 20, faults);
            c.due("left", d.left(1, 0), -faults);
        }
        for (int by = -13; by <= -2; by++) {
            c.due("no refusal " + by, d.status(by), 0);
        }
    }
}
