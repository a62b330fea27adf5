import java.math.BigInteger;
import java.util.ArrayList;
import java.util.Collections;
import java.util.HashMap;
import java.util.List;
import java.util.Map;
import java.util.TreeMap;
import java.util.regex.Matcher;
import java.util.regex.Pattern;

/**
 * The document once more, written as plainly as can be and in another way than the class: grains in
 * an order, numbers as fractions of any size, nothing kept from one call to the next.
 */
final class Model {
    static final long NOTHING = -2000000000L;

    /** (a + b r) + (c + d r) i. */
    static final class Num {
        final Frac a, b, c, d;

        Num(Frac a, Frac b, Frac c, Frac d) {
            this.a = a;
            this.b = b;
            this.c = c;
            this.d = d;
        }

        Num plus(Num o) {
            return new Num(a.plus(o.a), b.plus(o.b), c.plus(o.c), d.plus(o.d));
        }

        Num times(Num o) {
            Frac two = Frac.of(2, 1);
            Frac ra = a.times(o.a).plus(two.times(b.times(o.b))).minus(c.times(o.c)).minus(two.times(d.times(o.d)));
            Frac rb = a.times(o.b).plus(b.times(o.a)).minus(c.times(o.d)).minus(d.times(o.c));
            Frac rc = a.times(o.c).plus(two.times(b.times(o.d))).plus(c.times(o.a)).plus(two.times(d.times(o.b)));
            Frac rd = a.times(o.d).plus(b.times(o.c)).plus(c.times(o.b)).plus(d.times(o.a));
            return new Num(ra, rb, rc, rd);
        }

        static Num whole(long p, long q) {
            return new Num(Frac.of(p, q), Frac.ZERO, Frac.ZERO, Frac.ZERO);
        }

        static Num root(long p, long q) {
            return new Num(Frac.ZERO, Frac.of(p, q), Frac.ZERO, Frac.ZERO);
        }

        static Num i() {
            return new Num(Frac.ZERO, Frac.ZERO, Frac.of(1, 1), Frac.ZERO);
        }
    }

    static final class Frac {
        static final Frac ZERO = of(0, 1);
        final BigInteger p, q;

        Frac(BigInteger p, BigInteger q) {
            BigInteger g = p.gcd(q);
            this.p = p.divide(g);
            this.q = q.divide(g);
        }

        static Frac of(long p, long q) {
            return new Frac(BigInteger.valueOf(p), BigInteger.valueOf(q));
        }

        Frac plus(Frac o) {
            return new Frac(p.multiply(o.q).add(o.p.multiply(q)), q.multiply(o.q));
        }

        Frac minus(Frac o) {
            return plus(new Frac(o.p.negate(), o.q));
        }

        Frac times(Frac o) {
            return new Frac(p.multiply(o.p), q.multiply(o.q));
        }
    }

    /** u + v r, both fractions. */
    static final class Odd {
        Frac u = Frac.ZERO, v = Frac.ZERO;

        long part(int what) {
            BigInteger w = u.q.multiply(v.q).divide(u.q.gcd(v.q));
            if (what == 2) {
                return w.longValueExact();
            }
            Frac f = what == 0 ? u : v;
            return f.p.multiply(w.divide(f.q)).longValueExact();
        }

        /** The sign of this less the other, by squares. */
        int less(Odd o) {
            Frac x = u.minus(o.u), y = v.minus(o.v);
            BigInteger xp = x.p.multiply(y.q), yp = y.p.multiply(x.q);
            int sx = xp.signum(), sy = yp.signum();
            if (sx == 0 || sy == 0 || sx == sy) {
                return sx != 0 ? sx : sy;
            }
            int c = xp.multiply(xp).compareTo(yp.multiply(yp).shiftLeft(1));
            return c > 0 ? sx : sy;
        }
    }

    static final class P {
        String act = "", kind = "";
        int p = -1, q = -1, mark = -1, times, waitPath = -1, waitCount, loss;
    }

    static final class Fault extends Exception {
        private static final long serialVersionUID = 1L;
        final int at;

        Fault(int at) {
            this.at = at;
        }
    }

    private String tape = "";
    private final List<Integer> grains = new ArrayList<>();
    private final List<List<P>> benches = new ArrayList<>();
    private final List<P> shelf = new ArrayList<>();
    private final int[] dark = new int[5];
    private final List<int[]> runs = new ArrayList<>();
    private List<Integer> plan;
    private Odd planOdds;
    private int fault = -1, status = 0;

    // The words of the text that is being read.
    private final List<String> words = new ArrayList<>();
    private final List<Integer> places = new ArrayList<>();
    private int at;
    private final boolean[] counted = new boolean[5];
    private int losses;

    Model() {
        for (int i = 0; i < 4; i++) {
            benches.add(new ArrayList<>());
        }
    }

    private long refuse(int why) {
        status = why;
        return why;
    }

    private long allow(long answer) {
        status = 0;
        return answer;
    }

    private static boolean in(int x, int from, int to) {
        return x >= from && x <= to;
    }

    long grain(int mode) {
        if (!in(mode, 0, 9)) {
            return refuse(-1);
        }
        if (grains.size() == 3) {
            return refuse(-5);
        }
        grains.add(mode);
        return allow(grains.size());
    }

    long clear() {
        int n = grains.size();
        grains.clear();
        return n;
    }

    long feed(int... five) {
        if (tape.length() + 20 > 400) {
            return -1;
        }
        StringBuilder more = new StringBuilder(tape);
        for (int x : five) {
            more.append((char) (x >>> 24)).append((char) (x >>> 16 & 255)).append((char) (x >>> 8 & 255)).append((char) (x & 255));
        }
        tape = more.toString();
        return tape.length();
    }

    long end(int n) {
        if (!in(n, 0, tape.length())) {
            return -1;
        }
        tape = tape.substring(0, n);
        return n;
    }

    private void fail() throws Fault {
        throw new Fault(places.get(at));
    }

    private boolean is(String word) {
        return words.get(at).equals(word);
    }

    private void want(String word) throws Fault {
        if (!is(word)) {
            fail();
        }
        at++;
    }

    private int number(int most) throws Fault {
        if (!words.get(at).matches("[0-9]+") || new BigInteger(words.get(at)).compareTo(BigInteger.valueOf(most)) > 0) {
            fail();
        }
        return new BigInteger(words.get(at++)).intValue();
    }

    private int path(boolean behindIf, int unlike) throws Fault {
        int p = number(4);
        if (p == unlike || counted[p] != behindIf) {
            at--;
            fail();
        }
        return p;
    }

    private String kind() throws Fault {
        if (!is("three") && !is("four") && !is("half")) {
            fail();
        }
        return words.get(at++);
    }

    private void begin() {
        words.clear();
        places.clear();
        at = 0;
        losses = 0;
        java.util.Arrays.fill(counted, false);
        Matcher m = Pattern.compile("(?s)[a-z]+|[0-9]+|[^ ]").matcher(tape);
        while (m.find()) {
            words.add(m.group());
            places.add(m.start());
        }
        words.add("");
        places.add(tape.length());
        tape = "";
    }

    private void deed(P part) throws Fault {
        if (!is("split") && !is("turn") && !is("shift") && !is("swap")) {
            fail();
        }
        part.act = words.get(at++);
        part.p = path(false, -1);
        if (part.act.equals("split") || part.act.equals("swap")) {
            part.q = path(false, part.p);
        }
        if (part.act.equals("split") || part.act.equals("turn")) {
            part.kind = kind();
        }
        if (part.act.equals("shift")) {
            if (is("mark")) {
                at++;
                part.mark = number(1);
            }
            part.times = number(3);
        }
    }

    private P part() throws Fault {
        P part = new P();
        if (is("if")) {
            at++;
            part.waitPath = path(true, -1);
            want("=");
            part.waitCount = number(3);
            want("do");
            deed(part);
        } else if (is("lose")) {
            if (losses == 3) {
                fail();
            }
            part.loss = losses++;
            part.act = words.get(at++);
            part.p = path(false, -1);
            part.kind = kind();
        } else if (is("count")) {
            part.act = words.get(at++);
            part.p = path(false, -1);
            counted[part.p] = true;
        } else {
            deed(part);
        }
        return part;
    }

    long bench(int bench) {
        begin();
        if (!in(bench, 0, 3)) {
            return refuse(-2);
        }
        List<P> parts = new ArrayList<>();
        try {
            while (!is("") || !parts.isEmpty()) {
                if (parts.size() == 16) {
                    fail();
                }
                parts.add(part());
                if (is("")) {
                    break;
                }
                want(";");
            }
        } catch (Fault f) {
            fault = f.at;
            return refuse(-6);
        }
        fault = -1;
        benches.set(bench, parts);
        return allow(parts.size());
    }

    long shelf() {
        begin();
        if (shelf.size() == 8) {
            return refuse(-5);
        }
        P part = new P();
        try {
            deed(part);
            if (!is("")) {
                fail();
            }
        } catch (Fault f) {
            fault = f.at;
            return refuse(-6);
        }
        fault = -1;
        shelf.add(part);
        return allow(shelf.size() - 1);
    }

    long fault() {
        return fault;
    }

    private static long depth(List<P> parts, int n) {
        BigInteger product = BigInteger.ONE;
        for (P part : parts) {
            int base = part.kind.equals("") ? 1 : part.kind.equals("half") ? 2 : 5;
            product = product.multiply(BigInteger.valueOf(base).pow(n));
        }
        return product.min(BigInteger.valueOf(300001)).longValue();
    }

    long deep(int bench) {
        return in(bench, 0, 3) ? depth(benches.get(bench), grains.size()) : -1;
    }

    private static Num stays(String kind) {
        return kind.equals("half") ? Num.root(1, 2) : Num.whole(kind.equals("three") ? 3 : 4, 5);
    }

    private static Num goes(String kind) {
        return kind.equals("half") ? Num.root(1, 2) : Num.whole(kind.equals("three") ? 4 : 3, 5);
    }

    /** Where one grain comes to behind a part. Hidden modes are 100 and up. */
    private static Map<Integer, Num> one(P part, int mode) {
        Map<Integer, Num> to = new HashMap<>();
        int path = mode / 2, mark = mode % 2;
        boolean hidden = mode >= 100;
        if (!hidden && part.act.equals("split") && (path == part.p || path == part.q)) {
            int other = path == part.p ? part.q : part.p;
            to.put(mode, stays(part.kind));
            to.put(2 * other + mark, goes(part.kind).times(Num.i()));
        } else if (!hidden && part.act.equals("turn") && path == part.p) {
            to.put(mode, stays(part.kind));
            to.put(2 * path + 1 - mark, goes(part.kind).times(Num.whole(mark == 0 ? 1 : -1, 1)));
        } else if (!hidden && part.act.equals("shift") && path == part.p && (part.mark == -1 || part.mark == mark)) {
            Num factor = Num.whole(1, 1);
            for (int i = 0; i < part.times; i++) {
                factor = factor.times(Num.i());
            }
            to.put(mode, factor);
        } else if (!hidden && part.act.equals("swap") && (path == part.p || path == part.q)) {
            to.put(2 * (path == part.p ? part.q : part.p) + mark, Num.whole(1, 1));
        } else if (!hidden && part.act.equals("lose") && path == part.p) {
            to.put(mode, stays(part.kind));
            to.put(100 + 2 * part.loss + mark, goes(part.kind).times(Num.i()));
        } else {
            to.put(mode, Num.whole(1, 1));
        }
        return to;
    }

    private static int inPath(List<Integer> modes, int path) {
        int n = 0;
        for (int m : modes) {
            n += m < 100 && m / 2 == path ? 1 : 0;
        }
        return n;
    }

    /** All rows of modes, the first grain's first, with their numbers. */
    private static Map<List<Integer>, Num> light(List<P> parts, List<Integer> start) {
        Map<List<Integer>, Num> now = new HashMap<>();
        now.put(new ArrayList<>(start), Num.whole(1, 1));
        for (P part : parts) {
            Map<List<Integer>, Num> next = new HashMap<>();
            for (Map.Entry<List<Integer>, Num> e : now.entrySet()) {
                if (part.waitPath >= 0 && inPath(e.getKey(), part.waitPath) != part.waitCount) {
                    next.merge(e.getKey(), e.getValue(), Num::plus);
                    continue;
                }
                Map<List<Integer>, Num> grown = new HashMap<>();
                grown.put(new ArrayList<>(), e.getValue());
                for (int mode : e.getKey()) {
                    Map<List<Integer>, Num> more = new HashMap<>();
                    for (Map.Entry<List<Integer>, Num> g : grown.entrySet()) {
                        for (Map.Entry<Integer, Num> t : one(part, mode).entrySet()) {
                            List<Integer> key = new ArrayList<>(g.getKey());
                            key.add(t.getKey());
                            more.merge(key, g.getValue().times(t.getValue()), Num::plus);
                        }
                    }
                    grown = more;
                }
                for (Map.Entry<List<Integer>, Num> g : grown.entrySet()) {
                    next.merge(g.getKey(), g.getValue(), Num::plus);
                }
            }
            now = next;
        }
        return now;
    }

    private static long orders(List<Integer> modes) {
        long product = 1;
        Map<Integer, Integer> many = new HashMap<>();
        for (int m : modes) {
            product *= many.merge(m, 1, Integer::sum);
        }
        return product;
    }

    /** Odds by rows of counts. */
    private static Map<List<Integer>, Odd> rows(List<P> parts, List<Integer> start) {
        Map<List<Integer>, Num> alike = new HashMap<>();
        for (Map.Entry<List<Integer>, Num> e : light(parts, start).entrySet()) {
            List<Integer> key = new ArrayList<>(e.getKey());
            Collections.sort(key);
            alike.merge(key, e.getValue(), Num::plus);
        }
        Map<List<Integer>, Odd> rows = new HashMap<>();
        Frac two = Frac.of(2, 1);
        for (Map.Entry<List<Integer>, Num> e : alike.entrySet()) {
            List<Integer> row = new ArrayList<>();
            for (int p = 0; p < 5; p++) {
                row.add(inPath(e.getKey(), p));
            }
            Num n = e.getValue();
            Frac times = Frac.of(orders(e.getKey()), orders(start));
            Frac u = n.a.times(n.a).plus(two.times(n.b.times(n.b))).plus(n.c.times(n.c)).plus(two.times(n.d.times(n.d)));
            Frac v = two.times(n.a.times(n.b).plus(n.c.times(n.d)));
            Odd odd = rows.computeIfAbsent(row, k -> new Odd());
            odd.u = odd.u.plus(u.times(times));
            odd.v = odd.v.plus(v.times(times));
        }
        return rows;
    }

    private boolean told(int bench) {
        return in(bench, 0, 3) && deep(bench) <= 300000;
    }

    long way(int bench, int from, int to, int what) {
        if (!in(bench, 0, 3) || !in(from, 0, 9) || !in(to, 0, 9) || !in(what, 0, 4)) {
            return NOTHING;
        }
        long depth = depth(benches.get(bench), 1);
        if (depth > 300000) {
            return NOTHING;
        }
        if (what == 4) {
            return depth;
        }
        Num n = light(benches.get(bench), List.of(from)).getOrDefault(List.of(to), Num.whole(0, 1));
        Frac f = what == 0 ? n.a : what == 1 ? n.b : what == 2 ? n.c : n.d;
        Frac whole = f.times(Frac.of(depth, 1));
        if (!whole.q.equals(BigInteger.ONE)) {
            throw new IllegalStateException("a way that is not whole");
        }
        return whole.p.longValueExact();
    }

    long odds(int bench, int p0, int p1, int p2, int p3, int p4, int what) {
        if (!in(what, 0, 2)) {
            return -1;
        }
        List<Integer> row = List.of(p0, p1, p2, p3, p4);
        if (!told(bench) || Collections.min(row) < 0 || Collections.max(row) > 3) {
            return what == 2 ? -1 : 0;
        }
        return rows(benches.get(bench), grains).getOrDefault(row, new Odd()).part(what);
    }

    long dark(int path, int tenths) {
        if (!in(path, 0, 4) || !in(tenths, 0, 9)) {
            return refuse(-1);
        }
        int was = dark[path];
        dark[path] = tenths;
        return allow(was);
    }

    /** Odds of all clicks, by their bits. */
    private Map<Integer, Odd> allClicks(int bench) {
        Map<Integer, Odd> all = new TreeMap<>();
        Map<List<Integer>, Odd> rows = rows(benches.get(bench), grains);
        for (int bits = 0; bits < 32; bits++) {
            Odd sum = new Odd();
            for (Map.Entry<List<Integer>, Odd> e : rows.entrySet()) {
                Frac f = Frac.of(1, 1);
                for (int p = 0; p < 5; p++) {
                    boolean click = (bits >> p & 1) == 1;
                    Frac silent = e.getKey().get(p) > 0 ? Frac.ZERO : Frac.of(10 - dark[p], 10);
                    f = f.times(click ? Frac.of(1, 1).minus(silent) : silent);
                }
                sum.u = sum.u.plus(f.times(e.getValue().u));
                sum.v = sum.v.plus(f.times(e.getValue().v));
            }
            all.put(bits, sum);
        }
        return all;
    }

    long clicks(int bench, int bits, int what) {
        if (!in(what, 0, 2)) {
            return -1;
        }
        if (!told(bench) || !in(bits, 0, 31)) {
            return what == 2 ? -1 : 0;
        }
        return allClicks(bench).get(bits).part(what);
    }

    long run(int bench, int bits, int known) {
        if (!in(bits, 0, 31) || !in(known, 0, 999)) {
            return refuse(-1);
        }
        if (!in(bench, 0, 3)) {
            return refuse(-2);
        }
        if (runs.size() == 200) {
            return refuse(-5);
        }
        runs.add(new int[] {bench, bits, known});
        return allow(runs.size());
    }

    long counted(int bench, int bits, int known) {
        if (!in(bench, 0, 3) || !in(bits, -1, 31) || !in(known, 0, 999)) {
            return -1;
        }
        long n = 0;
        for (int[] r : runs) {
            n += r[0] == bench && (bits == -1 || r[1] == bits) && r[2] <= known ? 1 : 0;
        }
        return n;
    }

    long wrong(int bench, int known) {
        if (!told(bench) || !in(known, 0, 999)) {
            return -1;
        }
        Map<Integer, Odd> all = allClicks(bench);
        long n = 0;
        for (int bits = 0; bits < 32; bits++) {
            if (all.get(bits).u.p.signum() == 0 && all.get(bits).v.p.signum() == 0) {
                n += counted(bench, bits, known);
            }
        }
        return n;
    }

    long misfit(int bench, int known) {
        if (!told(bench) || !in(known, 0, 999) || counted(bench, -1, known) == 0) {
            return -1;
        }
        Map<Integer, Odd> all = allClicks(bench);
        long sum = 0;
        BigInteger k = BigInteger.valueOf(1000);
        for (int bits = 0; bits < 32; bits++) {
            BigInteger u = BigInteger.valueOf(all.get(bits).part(0));
            BigInteger v = BigInteger.valueOf(all.get(bits).part(1));
            BigInteger w = BigInteger.valueOf(all.get(bits).part(2));
            long due = u.add(v.multiply(BigInteger.valueOf(1414)).divide(k)).multiply(k).divide(w).longValueExact();
            sum += Math.abs(1000 * counted(bench, bits, known) / counted(bench, -1, known) - due);
        }
        return sum;
    }

    long fits(int known) {
        long best = -1;
        for (int i = 3; i >= 0; i--) {
            long m = misfit(i, known);
            if (m >= 0 && (best < 0 || m <= misfit((int) best, known))) {
                best = i;
            }
        }
        return best;
    }

    long pairs(int bench, int known, int what) {
        if (!in(bench, 0, 3) || !in(known, 0, 999) || !in(what, 0, 1)) {
            return -1;
        }
        long n = 0;
        for (int[] r : runs) {
            boolean c0 = (r[1] & 1) != 0, c1 = (r[1] & 2) != 0, c2 = (r[1] & 4) != 0, c3 = (r[1] & 8) != 0;
            boolean pairs = c0 != c1 && c2 != c3 && r[1] < 16;
            boolean like = c0 == c2;
            n += r[0] == bench && r[2] <= known && pairs && like == (what == 0) ? 1 : 0;
        }
        return n;
    }

    long notes(int known, int what) {
        if (!in(known, 0, 999) || !in(what, 0, 2)) {
            return NOTHING;
        }
        Frac[] e = new Frac[4];
        for (int i = 0; i < 4; i++) {
            long like = pairs(i, known, 0), unlike = pairs(i, known, 1);
            if (like + unlike == 0) {
                return NOTHING;
            }
            e[i] = Frac.of(like - unlike, like + unlike);
        }
        Frac best = Frac.of(-100, 1);
        for (int lone = 0; lone < 4; lone++) {
            Frac sum = Frac.ZERO;
            for (int i = 0; i < 4; i++) {
                sum = i == lone ? sum.minus(e[i]) : sum.plus(e[i]);
            }
            for (Frac f : List.of(sum, Frac.ZERO.minus(sum))) {
                best = f.minus(best).p.signum() > 0 ? f : best;
            }
        }
        if (what == 2) {
            return best.minus(Frac.of(2, 1)).p.signum() > 0 ? 1 : 0;
        }
        return (what == 0 ? best.p : best.q).longValueExact();
    }

    long plan(int n, int p0, int p1, int p2, int p3, int p4) {
        List<Integer> row = List.of(p0, p1, p2, p3, p4);
        if (!in(n, 0, 3) || Collections.min(row) < 0 || Collections.max(row) > 3 || grains.isEmpty()) {
            return -1;
        }
        List<Integer> best = null;
        Odd bestOdd = null;
        for (int length = 0; length <= n; length++) {
            int all = (int) Math.pow(shelf.size(), length);
            for (int code = 0; code < all; code++) {
                List<Integer> tried = new ArrayList<>();
                int rest = code;
                for (int i = 0; i < length; i++) {
                    tried.add(0, rest % shelf.size());
                    rest /= shelf.size();
                }
                List<P> parts = new ArrayList<>();
                for (int i : tried) {
                    parts.add(shelf.get(i));
                }
                if (depth(parts, grains.size()) > 300000) {
                    continue;
                }
                Odd odd = rows(parts, grains).getOrDefault(row, new Odd());
                if (best == null || odd.less(bestOdd) > 0) {
                    best = tried;
                    bestOdd = odd;
                }
            }
        }
        plan = best;
        planOdds = bestOdd;
        return best.size();
    }

    long planned(int i) {
        if (plan == null || !in(i, -3, plan.size() - 1)) {
            return NOTHING;
        }
        return i < 0 ? planOdds.part(-i - 1) : plan.get(i);
    }

    long build(int bench) {
        if (!in(bench, 0, 3)) {
            return refuse(-2);
        }
        if (plan == null) {
            return refuse(-6);
        }
        List<P> parts = new ArrayList<>();
        for (int i : plan) {
            parts.add(shelf.get(i));
        }
        benches.set(bench, parts);
        return allow(parts.size());
    }

    long count(int what) {
        if (in(what, 1, 4)) {
            return benches.get(what - 1).size();
        }
        return what == 0 ? grains.size() : what == 5 ? shelf.size() : what == 6 ? runs.size() : what == 7 ? tape.length() : -1;
    }

    long status() {
        return status;
    }
}
