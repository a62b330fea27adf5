import java.util.Random;

/** Long runs of calls drawn by fixed seeds, each answer against the model's. */
public final class ModelRuns {
    private static final String[] DEEDS = {"split", "turn", "shift", "swap"};
    private static final String[] KINDS = {"three", "four", "half"};
    private static final String[] ODDITIES = {";", "if", "do", "=", "mark", "lose", "count", "5", "9", "10", "00", "03",
        "99999999999", "Split", "splits", "halfhalf", "third", "-", "1", "0", "\u0000", "\u00e9", "\n", "four", "turn 0"};

    private final Random random;
    private final GrainBench x = new GrainBench();
    private final Model m = new Model();
    private final int seed;
    /** How many paths this run mostly keeps to: in few paths more grains meet. */
    private final int span;
    private int countedPaths;

    private ModelRuns(int seed) {
        this.seed = seed;
        random = new Random(seed);
        span = seed % 3 == 0 ? 5 : 3;
    }

    public static void main(String[] args) {
        int runs = args.length > 0 ? Integer.parseInt(args[0]) : 150;
        int first = args.length > 1 ? Integer.parseInt(args[1]) : 1;
        for (int seed = first; seed < first + runs; seed++) {
            new ModelRuns(seed).go();
        }
        Due.finish("ModelRuns");
    }

    private int upTo(int n) {
        return random.nextInt(n);
    }

    /** A number from 0 below n, rarely one just outside or far away. */
    private int near(int n) {
        int dice = upTo(40);
        if (dice == 0) {
            return n;
        }
        if (dice == 1) {
            return -1;
        }
        if (dice == 2) {
            return new int[] {Integer.MAX_VALUE, Integer.MIN_VALUE, -2, n + 1, -3, 64}[upTo(6)];
        }
        return upTo(n);
    }

    /** A path that was not counted in this text, or rarely any. */
    private int path() {
        int p = upTo(span);
        for (int i = 0; i < 5 && upTo(60) != 0 && (countedPaths >> p & 1) == 1; i++) {
            p = (p + 1) % 5;
        }
        return p;
    }

    private int otherPath(int p) {
        int q = path();
        for (int i = 0; i < 20 && q == p; i++) {
            q = upTo(60) == 0 ? p : path();
            q = q == p && upTo(30) != 0 ? free(p) : q;
        }
        return q;
    }

    private int free(int p) {
        for (int i = 1; i < 5; i++) {
            if ((countedPaths >> (p + i) % 5 & 1) == 0) {
                return (p + i) % 5;
            }
        }
        return p;
    }

    private String kind() {
        return KINDS[upTo(10) < 6 ? 2 : upTo(2)];
    }

    private String deed() {
        String act = DEEDS[upTo(7) % 4];
        int p = path();
        switch (act) {
            case "split":
                return act + " " + p + " " + otherPath(p) + " " + kind();
            case "turn":
                return act + " " + p + " " + kind();
            case "swap":
                return act + " " + p + " " + otherPath(p);
            default:
                return act + " " + p + (upTo(2) == 0 ? " mark " + upTo(2) : "") + " " + upTo(4);
        }
    }

    private String part() {
        int dice = upTo(24);
        if (dice < 2) {
            return "lose " + path() + " " + kind();
        }
        if (dice < 5 && Integer.bitCount(countedPaths) < 3) {
            int p = path();
            countedPaths |= 1 << p;
            return "count " + p;
        }
        if (countedPaths != 0 && dice < 15) {
            int p = upTo(5);
            for (int i = 0; i < 5 && upTo(60) != 0 && (countedPaths >> p & 1) == 0; i++) {
                p = (p + 1) % 5;
            }
            return "if " + p + " = " + upTo(upTo(3) == 0 ? 4 : 2) + " do " + deed();
        }
        return deed();
    }

    private String text(boolean one) {
        countedPaths = 0;
        StringBuilder text = new StringBuilder(one ? deed() : part());
        int more = one ? 0 : upTo(8) == 0 ? upTo(18) : upTo(8);
        for (int i = 0; i < more; i++) {
            text.append(upTo(2) == 0 ? ";" : " ; ").append(part());
        }
        if (upTo(10) == 0) {
            String odd = ODDITIES[upTo(ODDITIES.length)];
            int at = upTo(text.length() + 1);
            if (upTo(2) == 0) {
                at = Math.max(0, text.indexOf(" ", at));
            }
            text.insert(at, upTo(2) == 0 ? odd : " " + odd + " ");
        } else if (upTo(20) == 0) {
            text.setLength(upTo(text.length() + 1));
        } else if (upTo(20) == 0) {
            text.deleteCharAt(upTo(text.length()));
        }
        if (upTo(8) == 0) {
            text = new StringBuilder(text.toString().replaceAll("(?<=[;=]) | (?=[;=])|(?<=[a-z]) (?=[0-9])|(?<=[0-9]) (?=[a-z])", ""));
        }
        if (upTo(8) == 0) {
            text.append("  ").insert(0, " ");
        }
        if (upTo(60) == 0) {
            text.setLength(0);
            text.append(upTo(2) == 0 ? "" : "   ");
        }
        return text.length() > 380 ? text.substring(0, 380) : text.toString();
    }

    private void due(String call, long got, long want) {
        Due.due("seed " + seed + ": " + call, got, want);
    }

    private void tell(String text) {
        StringBuilder filled = new StringBuilder(text);
        while (filled.length() % 20 != 0) {
            filled.append((char) upTo(256));
        }
        int length = (int) m.count(7);
        for (int from = 0; from < filled.length(); from += 20) {
            int[] five = new int[5];
            for (int i = 0; i < 20; i++) {
                five[i / 4] = five[i / 4] << 8 | filled.charAt(from + i);
            }
            due("feed", x.feed(five[0], five[1], five[2], five[3], five[4]), m.feed(five));
        }
        int stop = length + text.length();
        due("end(" + stop + ")", x.end(stop), m.end(stop));
    }

    private void go() {
        for (int step = 0; step < 300; step++) {
            call(upTo(100));
            due("status", x.status(), m.status());
        }
        for (int what = -1; what < 9; what++) {
            due("count(" + what + ")", x.count(what), m.count(what));
        }
        if (seed % 5 == 0) {
            planFullShelf();
        }
    }

    /** Three parts out of eight: too slow in the model for each seed, so planning() leaves it out. */
    private void planFullShelf() {
        for (int i = 0; i < 40 && m.count(5) < 8; i++) {
            tell(text(true));
            due("shelf", x.shelf(), m.shelf());
        }
        due("clear", x.clear(), m.clear());
        for (int i = upTo(3); i < 3; i++) {
            int mode = upTo(2 * span);
            due("grain(" + mode + ")", x.grain(mode), m.grain(mode));
        }
        int[] r = row();
        due("plan of a full shelf", x.plan(3, r[0], r[1], r[2], r[3], r[4]), m.plan(3, r[0], r[1], r[2], r[3], r[4]));
        for (int i = -4; i < 4; i++) {
            due("planned(" + i + ") of a full shelf", x.planned(i), m.planned(i));
        }
    }

    private void call(int dice) {
        int b = near(4);
        int day = upTo(20) == 0 ? near(1000) : upTo(8);
        if (dice < 8) {
            int mode = upTo(4) == 0 ? near(10) : upTo(2 * span);
            due("grain(" + mode + ")", x.grain(mode), m.grain(mode));
        } else if (dice < 10) {
            due("clear", x.clear(), m.clear());
        } else if (dice < 20) {
            String text = text(false);
            tell(text);
            due("bench(" + b + ") of '" + text + "'", x.bench(b), m.bench(b));
            due("fault of '" + text + "'", x.fault(), m.fault());
        } else if (dice < 25) {
            String text = text(upTo(8) != 0);
            tell(text);
            due("shelf of '" + text + "'", x.shelf(), m.shelf());
            due("fault of '" + text + "'", x.fault(), m.fault());
        } else if (dice < 27) {
            due("deep(" + b + ")", x.deep(b), m.deep(b));
        } else if (dice < 33) {
            int from = near(2 * span);
            int to = upTo(3) == 0 ? from : near(2 * span);
            int what = near(5);
            due("way(" + b + ", " + from + ", " + to + ", " + what + ")", x.way(b, from, to, what), m.way(b, from, to, what));
        } else if (dice < 52) {
            int[] r = row();
            int what = near(3);
            due("odds(" + b + ", " + r[0] + r[1] + r[2] + r[3] + r[4] + ", " + what + ")",
                    x.odds(b, r[0], r[1], r[2], r[3], r[4], what), m.odds(b, r[0], r[1], r[2], r[3], r[4], what));
        } else if (dice < 56) {
            int path = near(5);
            int tenths = upTo(2) == 0 ? 0 : near(10);
            due("dark(" + path + ", " + tenths + ")", x.dark(path, tenths), m.dark(path, tenths));
        } else if (dice < 64) {
            int bits = near(32);
            int what = near(3);
            due("clicks(" + b + ", " + bits + ", " + what + ")", x.clicks(b, bits, what), m.clicks(b, bits, what));
        } else if (dice < 80) {
            int bits = upTo(3) == 0 ? near(32) : new int[] {5, 9, 6, 10}[upTo(4)];
            due("run(" + b + ", " + bits + ", " + day + ")", x.run(b, bits, day), m.run(b, bits, day));
        } else if (dice < 94) {
            ask(dice, b, day);
        } else {
            planning(dice, b);
        }
    }

    private int[] row() {
        int[] r = new int[5];
        int many = upTo(10) == 0 ? upTo(5) : (int) m.count(0);
        for (int i = 0; i < many; i++) {
            r[upTo(span)]++;
        }
        if (upTo(15) == 0) {
            r[upTo(5)] = near(4);
        }
        return r;
    }

    private void ask(int dice, int b, int day) {
        int what = near(3);
        if (dice < 83) {
            int bits = upTo(2) == 0 ? -1 : near(32);
            due("counted(" + b + ", " + bits + ", " + day + ")", x.counted(b, bits, day), m.counted(b, bits, day));
        } else if (dice < 85) {
            due("wrong(" + b + ", " + day + ")", x.wrong(b, day), m.wrong(b, day));
        } else if (dice < 88) {
            due("misfit(" + b + ", " + day + ")", x.misfit(b, day), m.misfit(b, day));
        } else if (dice < 89) {
            due("fits(" + day + ")", x.fits(day), m.fits(day));
        } else if (dice < 91) {
            due("pairs(" + b + ", " + day + ", " + what + ")", x.pairs(b, day, what), m.pairs(b, day, what));
        } else if (dice < 93) {
            due("notes(" + day + ", " + what + ")", x.notes(day, what), m.notes(day, what));
        } else {
            int n = upTo(3) == 0 ? (int) m.count(7) - upTo(5) : near(400);
            due("end(" + n + ")", x.end(n), m.end(n));
            due("feed", x.feed(n, 0x20202020, 0x20202020, -1, 0), m.feed(n, 0x20202020, 0x20202020, -1, 0));
            due("end(0)", x.end(0), m.end(0));
        }
    }

    private void planning(int dice, int b) {
        if (dice < 97) {
            int n = m.count(5) > 4 ? near(3) : near(4);
            int[] r = row();
            due("plan(" + n + ", " + r[0] + r[1] + r[2] + r[3] + r[4] + ")",
                    x.plan(n, r[0], r[1], r[2], r[3], r[4]), m.plan(n, r[0], r[1], r[2], r[3], r[4]));
        } else if (dice < 99) {
            for (int i = -4; i < 4; i++) {
                due("planned(" + i + ")", x.planned(i), m.planned(i));
            }
        } else {
            due("build(" + b + ")", x.build(b), m.build(b));
        }
    }
}
