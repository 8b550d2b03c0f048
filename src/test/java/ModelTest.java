import java.util.Random;
import java.util.TreeMap;

/** Runs of 512 calls, compared with the Model: all promises together, in states that nobody thought of. */
public final class ModelTest {
    private static final int RUNS = 600;
    private static final int CALLS = 512;
    private static final Check c = new Check();
    private static final String[] NAMES = {
        "caller", "seat", "way", "why", "make", "note", "empty", "holds", "read", "rule", "unrule", "share", "shares",
        "hang", "stop", "ring", "row", "tear", "step", "copy", "grow", "back", "stands", "budget", "waits", "count",
        "goods", "counts", "told", "left", "trial", "look", "trialTold", "among", "both", "moves", "image", "restore",
        "status"};
    private static final int[] STRANGE = {Integer.MIN_VALUE, -10000, -14, -3, -2, -1, 0, 1, 4, 5, 6, 7, 8, 15, 16, 20, 21,
        60, 61, 100, 101, 239, 240, 2000, 2001, 5000, 5001, 9999, 10000, 10001, 999999, 1000000, 1000001, 65535, 65536,
        Integer.MAX_VALUE};

    private final Random random;
    private final LadderDesk desk = new LadderDesk();
    private final Model model = new Model();
    /** How often each name got each kind of answer: it tells whether the runs reach what they should. */
    private static final TreeMap<String, TreeMap<String, Integer>> seen = new TreeMap<>();

    private ModelTest(long seed) {
        random = new Random(seed);
    }

    public static void main(String[] args) {
        int runs = args.length > 0 ? Integer.parseInt(args[0]) : RUNS;
        long from = args.length > 1 ? Long.parseLong(args[1]) : 0;
        for (long seed = from; seed < from + runs; seed++) {
            if (!new ModelTest(seed).runIsAsDue(seed)) {
                break;
            }
        }
        if (args.length > 0) {
            seen.forEach((name, answers) -> System.out.println(name + " " + answers));
        }
        c.end();
    }

    private boolean runIsAsDue(long seed) {
        StringBuilder calls = new StringBuilder();
        int focus = (int) (seed % 4);
        // Steps and trials need many calls at one PLACE, rings need many PLACES.
        int places = focus == 1 || focus == 2 ? 1 + random.nextInt(3) : 2 + random.nextInt(15);
        for (int i = 0; i < CALLS; i++) {
            String name = nextName(i, focus, places);
            long[] v = i < places ? firstSwitch(i, focus) : numbers(name, places);
            if (i >= places && random.nextInt(40) == 0 && v.length > 0) {
                v[random.nextInt(v.length)] = STRANGE[random.nextInt(STRANGE.length)];
            }
            long due = model.call(name, v);
            long got = call(name, v);
            calls.append(name).append(java.util.Arrays.toString(v)).append(" = ").append(due).append('\n');
            c.due("seed " + seed + " call " + i + " " + name + java.util.Arrays.toString(v), got, due);
            seen.computeIfAbsent(name, k -> new TreeMap<>()).merge(due < 0 && due > -14 ? "" + due : "taken", 1, Integer::sum);
            if (got != due) {
                System.out.println(calls);
                return false;
            }
        }
        return true;
    }

    private String nextName(int i, int focus, int places) {
        if (i < places) {
            return "make";
        }
        if (random.nextInt(5) < 3) {
            String[] often = new String[][] {
                {"hang", "stop", "hang", "stop", "way", "why", "share", "ring"},
                {"grow", "count", "step", "row", "grow", "count", "budget", "back", "left", "count", "step"},
                {"count", "goods", "goods", "look", "look", "trialTold", "count", "trial"},
                {"way", "why", "caller", "share", "rule", "among", "moves", "both"}}[focus];
            return often[random.nextInt(often.length)];
        }
        String name = NAMES[random.nextInt(NAMES.length)];
        // What takes away much is called less often, or states would stay poor.
        boolean isHard = name.equals("make") || name.equals("note") || name.equals("empty") || name.equals("restore")
            || name.equals("counts") || name.equals("tear");
        return isHard && random.nextInt(6) != 0 ? "why" : name;
    }

    private int upTo(int n) {
        return random.nextInt(n + 1);
    }

    private int one(int... of) {
        return of[random.nextInt(of.length)];
    }

    private static final int[] KINDS_BY_FOCUS = {3, 4, 1, 1, 2, 2, 0, 3};

    private long[] firstSwitch(int place, int focus) {
        int kind = random.nextBoolean() ? KINDS_BY_FOCUS[2 * focus + random.nextInt(2)] : upTo(4);
        return v(place, kind, one(1, 1, 3, 7, 9999, 1001), one(0, 0, upTo(9999)));
    }

    /** Most often one of a KIND that the call takes. */
    private int place(int places, String name) {
        int kinds = kindsOf(name);
        int place = random.nextInt(60) == 0 ? upTo(15) : random.nextInt(places);
        for (int i = 0; i < 12 && random.nextInt(40) != 0; i++) {
            int kind = model.kindAt(place);
            if (kind >= 0 && (kinds >> kind & 1) != 0) {
                break;
            }
            place = random.nextInt(places);
        }
        return place;
    }

    private static int kindsOf(String name) {
        switch (name) {
            case "hang": return 0b011000;
            case "stop": return 0b010000;
            case "row": case "tear": case "step": case "copy": case "grow": case "back": case "stands": case "budget":
            case "waits": case "left": return 0b000110;
            case "trial": case "look": case "trialTold": return 0b000100;
            case "read": return 0b100000;
            case "make": case "note": case "empty": case "holds": return 0b111111;
            default: return 0b011111;
        }
    }

    private int seat() {
        return random.nextBoolean() ? 100 * upTo(100) : upTo(30);
    }

    private int minute() {
        return random.nextInt(10) == 0 ? upTo(239) : upTo(3);
    }

    private int calls() {
        return one(0, 1, 2, 5, 9, 10, 30, 31, upTo(15), upTo(8), upTo(1000000));
    }

    private int bits(int places) {
        int set = random.nextInt(1 << places) & random.nextInt(1 << places);
        return random.nextBoolean() ? set & random.nextInt(1 << places) : set;
    }

    private long[] numbers(String name, int places) {
        int p = place(places, name);
        int q = name.equals("hang") ? place(places, "way") : place(places, name);
        int m = minute();
        int w = upTo(7);
        switch (name) {
            case "caller": return v(one(upTo(30), upTo(999999)), upTo(3), upTo(10), upTo(7));
            case "make": return v(p, upTo(4), one(1, 1, 3, 7, 9999, 2, 5, 1 + upTo(9998)), one(0, 0, upTo(9999), 10000));
            case "note": return new long[] {p, random.nextLong()};
            case "rule": return v(p, upTo(2), upTo(6), upTo(12), w);
            case "share": return v(p, one(1, 1, 2, 3, w), seat(), one(0, upTo(30), 100 * upTo(30), 100 * upTo(100)));
            case "shares": return v(p, w, upTo(2));
            case "hang": return v(p, one(q, q, q, q, q, -1), upTo(2));
            case "stop": return v(p, random.nextInt(9) == 0 ? bits(places) : bits(places) & ~(1 << p), upTo(3) / 3 ^ 1);
            case "ring": return v(upTo(6));
            case "row": return v(p, one(1, 2, 3, 4, 5, 20, 21, 0));
            case "step": return v(p, upTo(5), one(seat(), upTo(20), upTo(5) * 1000));
            case "copy": return v(p, upTo(3), q, upTo(3), upTo(3));
            case "grow": case "look": case "left": return v(p, m);
            case "stands": return v(p, upTo(4));
            case "budget": return v(p, one(1, 1, 2, 3, 60), one(0, 0, 5, 10, 40), one(0, 500, 2000, 5000, 10000), upTo(1));
            case "waits": return v(p, one(0, 0, 1, 2, 100));
            case "count": return count(p, m);
            case "goods": return v(p, upTo(3), m, one(0, 1, 2, 5, upTo(10)));
            case "counts": return v(p, upTo(4), upTo(1));
            case "told": return v(p, upTo(3), m, upTo(3));
            case "trial": return v(p, upTo(3), upTo(3), one(500, 1, 5000, 1 + upTo(4999)), one(1, 2, 3, 20, 1 + upTo(19)));
            case "trialTold": return v(p, upTo(7));
            case "among": return v(p, upTo(3), one(0, upTo(10000), upTo(999999)), upTo(40));
            case "both": return v(p, q, one(0, upTo(10000), upTo(999999)), upTo(40));
            case "moves": return v(p, one(seat(), upTo(10000)), one(0, upTo(10000), upTo(999999)), upTo(40));
            case "status": return v(-1 - upTo(13));
            case "image": case "restore": return v();
            default: return v(p);
        }
    }

    private long[] count(int p, int m) {
        int calls = calls();
        return v(p, one(0, 1, 1, 2, 3), m, calls, one(0, 0, 0, upTo(calls), upTo(calls), upTo(5)));
    }

    private static long[] v(int... n) {
        long[] v = new long[n.length];
        for (int i = 0; i < n.length; i++) {
            v[i] = n[i];
        }
        return v;
    }

    private long call(String name, long[] v) {
        int[] n = new int[5];
        for (int i = 0; i < v.length; i++) {
            n[i] = (int) v[i];
        }
        switch (name) {
            case "caller": return desk.caller(n[0], n[1], n[2], n[3]);
            case "seat": return desk.seat(n[0]);
            case "way": return desk.way(n[0]);
            case "why": return desk.why(n[0]);
            case "make": return desk.make(n[0], n[1], n[2], n[3]);
            case "note": return desk.note(n[0], v[1]);
            case "empty": return desk.empty(n[0]);
            case "holds": return desk.holds(n[0]);
            case "read": return desk.read(n[0]);
            case "rule": return desk.rule(n[0], n[1], n[2], n[3], n[4]);
            case "unrule": return desk.unrule(n[0]);
            case "share": return desk.share(n[0], n[1], n[2], n[3]);
            case "shares": return desk.shares(n[0], n[1], n[2]);
            case "hang": return desk.hang(n[0], n[1], n[2]);
            case "stop": return desk.stop(n[0], n[1], n[2] != 0);
            case "ring": return desk.ring(n[0]);
            case "row": return desk.row(n[0], n[1]);
            case "tear": return desk.tear(n[0]);
            case "step": return desk.step(n[0], n[1], n[2]);
            case "copy": return desk.copy(n[0], n[1], n[2], n[3], n[4]);
            default: return callOther(name, n);
        }
    }

    private long callOther(String name, int[] n) {
        switch (name) {
            case "grow": return desk.grow(n[0], n[1]);
            case "back": return desk.back(n[0]);
            case "stands": return desk.stands(n[0], n[1]);
            case "budget": return desk.budget(n[0], n[1], n[2], n[3], n[4] != 0);
            case "waits": return desk.waits(n[0], n[1]);
            case "count": return desk.count(n[0], n[1], n[2], n[3], n[4]);
            case "goods": return desk.goods(n[0], n[1], n[2], n[3]);
            case "counts": return desk.counts(n[0], n[1], n[2] != 0);
            case "told": return desk.told(n[0], n[1], n[2], n[3]);
            case "left": return desk.left(n[0], n[1]);
            case "trial": return desk.trial(n[0], n[1], n[2], n[3], n[4]);
            case "look": return desk.look(n[0], n[1]);
            case "trialTold": return desk.trialTold(n[0], n[1]);
            case "among": return desk.among(n[0], n[1], n[2], n[3]);
            case "both": return desk.both(n[0], n[1], n[2], n[3]);
            case "moves": return desk.moves(n[0], n[1], n[2], n[3]);
            case "image": return desk.image();
            case "restore": return desk.restore();
            case "status": return desk.status(n[0]);
            default: throw new IllegalStateException(name);
        }
    }
}
