import java.math.BigInteger;
import java.util.ArrayList;
import java.util.Arrays;
import java.util.List;
import java.util.Map;
import java.util.TreeMap;

/** The document once more, written slowly and in another form, for ModelTest to compare with. */
final class Model {
    private static final class Refusal extends RuntimeException {
        private static final long serialVersionUID = 1L;
        final int by;

        Refusal(int by) {
            super(null, null, false, false);
            this.by = by;
        }
    }

    private static final class Sw {
        int kind;
        int a;
        int b;
        List<int[]> rules = new ArrayList<>();
        int[] first = new int[8];
        int[] size = new int[8];
        int on = -1;
        int onWay;
        int set;
        boolean isOn;
        List<Integer> steps;
        int stands = -1;
        int[] budget = {1, 0, 10000, 0};
        int wait;
        int waitsTo;
        int spent;
        List<Map<Integer, int[]>> counts = new ArrayList<>();
        int[] trial = {0, 1, 500, 1};
        int[] look = new int[7];

        Sw(int kind, int a, int b) {
            this.kind = kind;
            this.a = a;
            this.b = b;
            for (int w = 0; w < 4; w++) {
                counts.add(new TreeMap<>());
            }
        }

        Sw(Sw o) {
            this(o.kind, o.a, o.b);
            for (int[] r : o.rules) {
                rules.add(r.clone());
            }
            first = o.first.clone();
            size = o.size.clone();
            on = o.on;
            onWay = o.onWay;
            set = o.set;
            isOn = o.isOn;
            steps = o.steps == null ? null : new ArrayList<>(o.steps);
            stands = o.stands;
            budget = o.budget.clone();
            wait = o.wait;
            waitsTo = o.waitsTo;
            spent = o.spent;
            for (int w = 0; w < 4; w++) {
                Map<Integer, int[]> row = null;
                if (o.counts.get(w) != null) {
                    row = new TreeMap<>();
                    for (Map.Entry<Integer, int[]> e : o.counts.get(w).entrySet()) {
                        row.put(e.getKey(), e.getValue().clone());
                    }
                }
                counts.set(w, row);
            }
            trial = o.trial.clone();
            look = o.look.clone();
        }

        int wayOfSeat(int seat) {
            int way = 0;
            for (int w = 1; w <= 7; w++) {
                for (int s = first[w]; s < first[w] + size[w]; s++) {
                    if (s == seat) {
                        way = w;
                    }
                }
            }
            return way;
        }
    }

    /** A Sw, a Long, or null. */
    private Object[] shelf = new Object[16];
    private Object[] kept;
    private int[] caller = new int[4];
    private List<Integer> ring = new ArrayList<>();
    private final int[] refused = new int[14];

    /** One call by its name; numbers are as the face has them, truth is 0 or 1. */
    long call(String name, long[] v) {
        try {
            int[] n = new int[v.length];
            for (int i = 0; i < v.length; i++) {
                n[i] = (int) v[i];
            }
            return name.equals("note") ? note(n[0], v[1]) : answer(name, n);
        } catch (Refusal r) {
            refused[-r.by]++;
            return name.equals("read") ? 0L : r.by;
        }
    }

    private long answer(String name, int[] n) {
        switch (name) {
            case "caller": return becomes(n);
            case "seat": return seat(any(n[0]), caller[0]);
            case "way": any(n[0]); return way(n[0], caller[0]);
            case "why": any(n[0]); return why(n[0], caller[0]);
            case "make": return make(n);
            case "empty": return empty(n[0]);
            case "holds": return holds(n[0]);
            case "read": return read(n[0]);
            case "rule": return rule(n);
            case "unrule": return unrule(n[0]);
            case "share": return share(n);
            case "shares": return shares(n);
            case "hang": return hang(n[0], n[1], n[2]);
            case "stop": return stop(n[0], n[1], n[2] != 0);
            case "ring": must(n[0] >= 0 && n[0] < ring.size(), -3); return ring.get(n[0]);
            case "row": return row(n[0], n[1]);
            case "tear": return tear(n[0]);
            case "step": return step(n[0], n[1], n[2]);
            case "copy": return copy(n);
            case "grow": return grow(n[0], n[1]);
            case "back": return back(n[0]);
            case "stands": return stands(n[0], n[1]);
            case "budget": return budget(n);
            case "waits": return waits(n[0], n[1]);
            case "count": return count(n);
            case "goods": return goods(n);
            case "counts": return counts(n[0], n[1], n[2] != 0);
            case "told": return told(n);
            case "left": return left(n[0], n[1]);
            case "trial": return trial(n);
            case "look": return look(n[0], n[1]);
            case "trialTold": return trialTold(n[0], n[1]);
            case "among": return among(n);
            case "both": return both(n);
            case "moves": return moves(n);
            case "image": kept = copyOf(shelf); return switches(kept);
            case "restore": must(kept != null, -2); shelf = copyOf(kept); return switches(kept);
            case "status": must(n[0] <= -2 && n[0] >= -13, -12); return refused[-n[0]];
            default: throw new IllegalStateException(name);
        }
    }

    /** For a test to choose PLACES by: -1 nothing, 0 .. 4 a SWITCH, 5 a NOTE. */
    int kindAt(int place) {
        return holds(place);
    }

    private static void must(boolean holds, int by) {
        if (!holds) {
            throw new Refusal(by);
        }
    }

    private static boolean in(int v, int low, int high) {
        return low <= v && v <= high;
    }

    private Sw some(int place, int... kinds) {
        must(in(place, 0, 15), -3);
        must(shelf[place] != null, -2);
        must(shelf[place] instanceof Sw, -5);
        Sw s = (Sw) shelf[place];
        boolean fits = false;
        for (int k : kinds) {
            fits |= k == s.kind;
        }
        must(fits, -5);
        return s;
    }

    private Sw any(int place) {
        return some(place, 0, 1, 2, 3, 4);
    }

    private Sw stepped(int place) {
        return some(place, 1, 2);
    }

    private Sw at(int place) {
        return place >= 0 && shelf[place] instanceof Sw ? (Sw) shelf[place] : null;
    }

    private static Object[] copyOf(Object[] from) {
        Object[] to = new Object[16];
        for (int p = 0; p < 16; p++) {
            to[p] = from[p] instanceof Sw ? new Sw((Sw) from[p]) : from[p];
        }
        return to;
    }

    private static int switches(Object[] of) {
        return (int) Arrays.stream(of).filter(o -> o instanceof Sw).count();
    }

    private int becomes(int[] n) {
        must(in(n[0], 0, 999999) && in(n[1], 0, 15) && in(n[2], 0, 4000) && in(n[3], 0, 7), -3);
        caller = n.clone();
        return 1;
    }

    private int seat(Sw s, int number) {
        return BigInteger.valueOf(s.a).multiply(BigInteger.valueOf(number)).add(BigInteger.valueOf(s.b))
            .mod(BigInteger.valueOf(10000)).intValue();
    }

    private boolean hangs(Sw s, int number) {
        return at(s.on) == null || way(s.on, number) == s.onWay;
    }

    private int why(int place, int number) {
        Sw s = at(place);
        for (int p = 0; p < 16; p++) {
            Sw t = at(p);
            if (t != null && t.kind == 4 && t.isOn && (t.set & 1 << place) != 0 && hangs(t, number)) {
                return 8 + p;
            }
        }
        if (!hangs(s, number)) {
            return 7;
        }
        for (int i = 0; i < s.rules.size(); i++) {
            int[] r = s.rules.get(i);
            if (in(caller[1 + r[0]], r[1], r[2])) {
                return i + 1;
            }
        }
        return 0;
    }

    private int way(int place, int number) {
        Sw s = at(place);
        int why = why(place, number);
        if (why >= 7) {
            return 0;
        }
        return why > 0 ? s.rules.get(why - 1)[3] : s.wayOfSeat(seat(s, number));
    }

    private int make(int[] n) {
        must(in(n[0], 0, 15), -3);
        must(in(n[1], 0, 4) && in(n[2], 1, 9999) && n[2] % 2 != 0 && n[2] % 5 != 0 && in(n[3], 0, 9999), -12);
        shelf[n[0]] = new Sw(n[1], n[2], n[3]);
        return 1;
    }

    private int note(int place, long v) {
        must(in(place, 0, 15), -3);
        shelf[place] = v;
        return 1;
    }

    private int empty(int place) {
        must(in(place, 0, 15), -3);
        int had = shelf[place] == null ? 0 : 1;
        shelf[place] = null;
        return had;
    }

    private int holds(int place) {
        must(in(place, 0, 15), -3);
        if (shelf[place] == null) {
            return -1;
        }
        return at(place) == null ? 5 : at(place).kind;
    }

    private long read(int place) {
        must(in(place, 0, 15), -3);
        must(shelf[place] != null, -2);
        must(at(place) == null, -5);
        return (Long) shelf[place];
    }

    private int rule(int[] n) {
        must(in(n[0], 0, 15) && in(n[1], 0, 2) && in(n[4], 0, 7), -3);
        Sw s = any(n[0]);
        must(s.rules.size() < 6, -13);
        s.rules.add(new int[] {n[1], n[2], n[3], n[4]});
        return s.rules.size();
    }

    private int unrule(int place) {
        Sw s = any(place);
        must(!s.rules.isEmpty(), -2);
        s.rules.remove(s.rules.size() - 1);
        return s.rules.size();
    }

    private boolean free(Sw s, int way, long from, long n) {
        if (from < 0 || from > 9999 || n < 0 || from + n > 10000) {
            return false;
        }
        boolean[] taken = new boolean[10000];
        for (int w = 1; w <= 7; w++) {
            for (int i = s.first[w]; w != way && i < s.first[w] + s.size[w]; i++) {
                taken[i] = true;
            }
        }
        for (long i = from; i < from + n; i++) {
            if (taken[(int) i]) {
                return false;
            }
        }
        return true;
    }

    private int share(int[] n) {
        must(in(n[0], 0, 15) && in(n[1], 1, 7), -3);
        Sw s = any(n[0]);
        must(n[3] >= 0, -4);
        must(free(s, n[1], n[2], n[3]) && !(n[1] == 1 && s.stands >= 0), -12);
        int had = s.size[n[1]];
        s.first[n[1]] = n[2];
        s.size[n[1]] = n[3];
        return had;
    }

    private int shares(int[] n) {
        must(in(n[0], 0, 15) && in(n[1], 1, 7), -3);
        Sw s = any(n[0]);
        must(in(n[2], 0, 1), -12);
        return n[2] == 0 ? s.first[n[1]] : s.size[n[1]];
    }

    private int hang(int place, int on, int way) {
        must(in(place, 0, 15) && in(on, -1, 15) && (on == -1 || in(way, 0, 7)), -3);
        must(shelf[place] != null && (on == -1 || shelf[on] != null), -2);
        Sw s = some(place, 3, 4);
        must(on == -1 || at(on) != null, -5);
        int[] before = {s.on, s.onWay};
        s.on = on;
        s.onWay = way;
        if (findRing()) {
            s.on = before[0];
            s.onWay = before[1];
            throw new Refusal(-7);
        }
        return 1;
    }

    private int stop(int place, int set, boolean on) {
        Sw s = some(place, 4);
        must(in(set, 0, 65535) && (set >> place) % 2 == 0, -12);
        int before = s.set;
        s.set = set;
        if (findRing()) {
            s.set = before;
            throw new Refusal(-7);
        }
        s.isOn = on;
        return 1;
    }

    /** All ways of each number of PLACES, by Floyd and Warshall; then all RINGS of the least length, in order. */
    private boolean findRing() {
        int far = 1000;
        int[][] d = new int[16][16];
        boolean[][] asks = new boolean[16][16];
        for (int p = 0; p < 16; p++) {
            Arrays.fill(d[p], far);
        }
        for (int p = 0; p < 16; p++) {
            Sw s = at(p);
            for (int q = 0; s != null && s.on >= 0 && q < 16; q++) {
                if (q == p || s.kind == 4 && (s.set >> q) % 2 == 1) {
                    asks[q][s.on] = true;
                    d[q][s.on] = 1;
                }
            }
        }
        for (int k = 0; k < 16; k++) {
            for (int i = 0; i < 16; i++) {
                for (int j = 0; j < 16; j++) {
                    d[i][j] = Math.min(d[i][j], d[i][k] + d[k][j]);
                }
            }
        }
        for (int p = 0; p < 16; p++) {
            if (d[p][p] < far) {
                ring = firstOfLength(asks, p, new ArrayList<>(List.of(p)), d[p][p]);
                return true;
            }
        }
        return false;
    }

    private List<Integer> firstOfLength(boolean[][] asks, int goal, List<Integer> path, int length) {
        int last = path.get(path.size() - 1);
        if (path.size() == length) {
            return asks[last][goal] ? path : null;
        }
        for (int q = 0; q < 16; q++) {
            if (asks[last][q]) {
                List<Integer> longer = new ArrayList<>(path);
                longer.add(q);
                List<Integer> found = firstOfLength(asks, goal, longer, length);
                if (found != null) {
                    return found;
                }
            }
        }
        return null;
    }

    private int row(int place, int n) {
        Sw s = stepped(place);
        must(n >= 0, -4);
        must(in(n, 1, 20) && s.stands < 0, -12);
        s.steps = new ArrayList<>();
        for (int i = 0; i < n; i++) {
            s.steps.add(0);
        }
        return 1;
    }

    private int tear(int place) {
        Sw s = stepped(place);
        int had = s.steps == null ? 0 : 1;
        s.steps = null;
        return had;
    }

    private int step(int place, int i, int v) {
        Sw s = stepped(place);
        must(s.steps != null, -2);
        must(in(i, 0, s.steps.size() - 1), -3);
        must(in(v, 0, 10000) && s.stands < i, -12);
        return s.steps.set(i, v);
    }

    private int copy(int[] n) {
        must(in(n[0], 0, 15) && in(n[2], 0, 15), -3);
        must(shelf[n[0]] != null && shelf[n[2]] != null, -2);
        Sw from = stepped(n[0]);
        Sw to = stepped(n[2]);
        must(from.steps != null && to.steps != null, -2);
        must(to.stands < 0, -12);
        must(n[1] >= 0 && n[3] >= 0 && n[4] >= 0, -6);
        must((long) n[1] + n[4] <= from.steps.size() && (long) n[3] + n[4] <= to.steps.size(), -6);
        List<Integer> were = new ArrayList<>(from.steps);
        for (int i = 0; i < n[4]; i++) {
            to.steps.set(n[3] + i, were.get(n[1] + i));
        }
        return n[4];
    }

    /** CALLS, FAULTS of the WINDOW; null: one is not told. */
    private long[] window(Sw s, int minute) {
        long[] sum = new long[2];
        for (int i = 0; i < s.budget[0]; i++) {
            if (minute - i >= 0) {
                int[] told = s.counts.get(1) == null ? null : s.counts.get(1).get(minute - i);
                if (told == null) {
                    return null;
                }
                sum[0] += told[0];
                sum[1] += told[1];
            }
        }
        return sum;
    }

    private boolean spent(Sw s, int minute) {
        long[] w = window(s, minute);
        return w != null && w[0] >= s.budget[1] && w[0] > 0 && w[1] * 10000 > s.budget[2] * w[0];
    }

    private int grow(int place, int minute) {
        must(in(place, 0, 15) && in(minute, 0, 239), -3);
        Sw s = stepped(place);
        must(s.steps != null, -2);
        must(s.stands + 1 < s.steps.size(), -3);
        if (s.stands >= 0) {
            long[] w = window(s, minute);
            must(w != null, -8);
            must(w[0] >= s.budget[1], -9);
            must(!spent(s, minute), -10);
        }
        must(minute >= s.waitsTo, -11);
        int next = s.steps.get(s.stands + 1);
        must(next >= s.size[1] && free(s, 1, s.first[1], next), -12);
        s.stands++;
        s.size[1] = next;
        return next;
    }

    private int back(int place) {
        Sw s = stepped(place);
        must(s.stands < 1 || s.steps != null, -2);
        must(s.stands >= 0, -12);
        s.stands--;
        s.size[1] = s.stands < 0 ? 0 : s.steps.get(s.stands);
        return s.size[1];
    }

    private int stands(int place, int what) {
        Sw s = stepped(place);
        must(in(what, 0, 3), -12);
        return new int[] {s.stands, s.steps == null ? -1 : s.steps.size(), s.waitsTo, s.spent}[what];
    }

    private int budget(int[] n) {
        Sw s = stepped(n[0]);
        must(in(n[1], 1, 60) && in(n[2], 0, 1000000) && in(n[3], 0, 10000), -12);
        s.budget = new int[] {n[1], n[2], n[3], n[4]};
        return 1;
    }

    private int waits(int place, int wait) {
        Sw s = stepped(place);
        must(in(wait, 0, 100), -12);
        int was = s.wait;
        s.wait = wait;
        return was;
    }

    private Map<Integer, int[]> rowOf(int[] n) {
        must(in(n[0], 0, 15) && in(n[1], 0, 3) && in(n[2], 0, 239), -3);
        Map<Integer, int[]> row = any(n[0]).counts.get(n[1]);
        must(row != null, -2);
        return row;
    }

    private int count(int[] n) {
        Map<Integer, int[]> row = rowOf(n);
        must(in(n[3], 0, 1000000) && in(n[4], 0, 1000000) && n[4] <= n[3], -12);
        row.put(n[2], new int[] {n[3], n[4], 0});
        Sw s = any(n[0]);
        if (n[1] == 1 && s.stands >= 0 && spent(s, n[2])) {
            boolean none = s.budget[3] != 0 || s.steps == null || s.stands == 0;
            s.stands = none ? -1 : s.stands - 1;
            s.size[1] = none ? 0 : s.steps.get(s.stands);
            s.waitsTo = n[2] + s.wait + 1;
            s.spent++;
        }
        return s.size[1];
    }

    private int goods(int[] n) {
        int[] told = rowOf(n).get(n[2]);
        must(told != null, -8);
        must(in(n[3], 0, told[0]), -12);
        told[2] = n[3];
        return 1;
    }

    private int counts(int place, int way, boolean there) {
        must(in(place, 0, 15) && in(way, 0, 3), -3);
        return any(place).counts.set(way, there ? new TreeMap<>() : null) == null ? 0 : 1;
    }

    private int told(int[] n) {
        int[] told = rowOf(n).get(n[2]);
        must(told != null, -8);
        must(in(n[3], 0, 2), -12);
        return told[n[3]];
    }

    private long left(int place, int minute) {
        must(in(place, 0, 15) && in(minute, 0, 239), -3);
        Sw s = stepped(place);
        must(s.counts.get(1) != null, -2);
        long[] w = window(s, minute);
        must(w != null, -8);
        return s.budget[2] * w[0] / 10000 - w[1];
    }

    private int trial(int[] n) {
        must(in(n[0], 0, 15) && in(n[1], 0, 3) && in(n[2], 0, 3), -3);
        Sw s = some(n[0], 2);
        must(n[1] != n[2] && in(n[3], 1, 5000) && in(n[4], 1, 20), -12);
        s.trial = Arrays.copyOfRange(n, 1, 5);
        s.look = new int[7];
        return 1;
    }

    private int look(int place, int minute) {
        must(in(place, 0, 15) && in(minute, 0, 239), -3);
        Sw s = some(place, 2);
        Map<Integer, int[]> x = s.counts.get(s.trial[0]);
        Map<Integer, int[]> y = s.counts.get(s.trial[1]);
        must(x != null && y != null, -2);
        must(s.look[6] == 0, -12);
        int[] sum = new int[4];
        for (Map.Entry<Integer, int[]> e : x.entrySet()) {
            int[] other = y.get(e.getKey());
            if (e.getKey() <= minute && other != null) {
                sum[0] += e.getValue()[0];
                sum[1] += other[0];
                sum[2] += e.getValue()[2];
                sum[3] += other[2];
            }
        }
        must(sum[0] > 0 && sum[1] > 0, -8);
        must(sum[0] <= 30 && sum[1] <= 30, -13);
        int end = judge(s, sum[0], sum[1], sum[2], sum[3]);
        s.look[6] = end != 0 ? end : s.look[5] == s.trial[3] ? 3 : 0;
        return s.look[6];
    }

    private int judge(Sw s, int n1, int n2, int g1, int g2) {
        BigInteger apart = BigInteger.ZERO;
        BigInteger all = BigInteger.ZERO;
        for (int k = 0; k <= g1 + g2; k++) {
            BigInteger deals = choose(n1, k).multiply(choose(n2, g1 + g2 - k));
            all = all.add(deals);
            if (Math.abs(k * n2 - (g1 + g2 - k) * n1) >= Math.abs(g1 * n2 - g2 * n1)) {
                apart = apart.add(deals);
            }
        }
        int millionths = apart.multiply(BigInteger.valueOf(1000000)).divide(all).intValue();
        s.look = new int[] {millionths, n1, n2, g1, g2, s.look[5] + 1, 0};
        BigInteger scaled = apart.multiply(BigInteger.valueOf(10000L * s.trial[3]));
        if (scaled.compareTo(all.multiply(BigInteger.valueOf(s.trial[2]))) > 0) {
            return 0;
        }
        return g1 * n2 > g2 * n1 ? 1 : g1 * n2 < g2 * n1 ? 2 : 3;
    }

    private static BigInteger choose(int n, int k) {
        BigInteger up = BigInteger.ONE;
        BigInteger down = BigInteger.ONE;
        for (int i = 0; i < k; i++) {
            up = up.multiply(BigInteger.valueOf(n - i));
            down = down.multiply(BigInteger.valueOf(i + 1));
        }
        return up.divide(down);
    }

    private int trialTold(int place, int what) {
        Sw s = some(place, 2);
        must(in(what, 0, 6), -12);
        return s.look[what];
    }

    private void crowd(int first, int n) {
        must(n >= 0, -4);
        must(in(n, 1, 2000) && first + n <= 1000000, -12);
    }

    private int among(int[] n) {
        must(in(n[0], 0, 15) && in(n[1], 0, 7) && in(n[2], 0, 999999), -3);
        any(n[0]);
        crowd(n[2], n[3]);
        int found = 0;
        for (int i = n[2]; i < n[2] + n[3]; i++) {
            found += way(n[0], i) == n[1] ? 1 : 0;
        }
        return found;
    }

    private int both(int[] n) {
        must(in(n[0], 0, 15) && in(n[1], 0, 15) && in(n[2], 0, 999999), -3);
        must(shelf[n[0]] != null && shelf[n[1]] != null, -2);
        any(n[0]);
        any(n[1]);
        crowd(n[2], n[3]);
        int found = 0;
        for (int i = n[2]; i < n[2] + n[3]; i++) {
            found += way(n[0], i) == 1 && way(n[1], i) == 1 ? 1 : 0;
        }
        return found;
    }

    private int moves(int[] n) {
        must(in(n[0], 0, 15) && in(n[2], 0, 999999), -3);
        Sw s = any(n[0]);
        crowd(n[2], n[3]);
        must(in(n[1], 0, 10000) && free(s, 1, s.first[1], n[1]), -12);
        int was = s.size[1];
        int found = 0;
        for (int i = n[2]; i < n[2] + n[3]; i++) {
            int before = way(n[0], i);
            s.size[1] = n[1];
            found += way(n[0], i) == before ? 0 : 1;
            s.size[1] = was;
        }
        return found;
    }
}
