/** What the project's tests share: the count of wrong answers, and texts put on a tape. */
final class Due {
    private static int wrong = 0;

    private Due() {
    }

    static void due(String call, long got, long want) {
        if (got != want) {
            wrong++;
            if (wrong <= 50) {
                System.out.println(call + " answered " + got + ", due is " + want);
            }
        }
    }

    static void holds(String what, boolean is) {
        due(what, is ? 1 : 0, 1);
    }

    /** Puts a text behind an empty tape: its length, or -1 if the tape did not take it. */
    static int tell(GrainBench x, String text) {
        int[] five = new int[5];
        int length = text.length();
        for (int from = 0; from < length; from += 20) {
            for (int i = 0; i < 5; i++) {
                five[i] = 0;
                for (int j = 0; j < 4; j++) {
                    int at = from + 4 * i + j;
                    five[i] = five[i] << 8 | (at < length ? text.charAt(at) : 0);
                }
            }
            if (x.feed(five[0], five[1], five[2], five[3], five[4]) == GrainBench.NONE) {
                return GrainBench.NONE;
            }
        }
        return x.end(length);
    }

    static void bench(GrainBench x, int bench, String text, int want) {
        tell(x, text);
        due("bench(" + bench + ") of '" + text + "'", x.bench(bench), want);
    }

    static void shelf(GrainBench x, String text, int want) {
        tell(x, text);
        due("shelf() of '" + text + "'", x.shelf(), want);
    }

    static void odds(GrainBench x, String name, int bench, int[] row, long[] want) {
        for (int what = 0; what < 3; what++) {
            due(name + ", odds part " + what,
                    x.odds(bench, row[0], row[1], row[2], row[3], row[4], what), want[what]);
        }
    }

    static void clicks(GrainBench x, String name, int bench, int bits, long[] want) {
        for (int what = 0; what < 3; what++) {
            due(name + ", clicks part " + what, x.clicks(bench, bits, what), want[what]);
        }
    }

    static int[] row(int... counts) {
        return counts;
    }

    static long[] share(long... parts) {
        return parts;
    }

    static void finish(String name) {
        System.out.println(wrong == 0 ? name + ": all answers are as due" : name + ": " + wrong + " answers are not as due");
        if (wrong != 0) {
            System.exit(1);
        }
    }
}
