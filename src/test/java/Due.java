import java.lang.reflect.InvocationTargetException;
import java.lang.reflect.Method;
import java.lang.reflect.Modifier;
import java.util.Arrays;
import java.util.Comparator;

/** What the project's tests share: the count of wrong answers, and texts put on a tape. */
final class Due {
    static final int[] FAR = {Integer.MIN_VALUE, Integer.MAX_VALUE};

    private static int wrong = 0;
    /** The test that runs, for what is printed. */
    private static String running = "";

    private Due() {
    }

    static void due(String call, long got, long want) {
        if (got != want) {
            wrong++;
            if (wrong <= 50) {
                System.out.println(running + call + " answered " + got + ", due is " + want);
            }
        }
    }

    /** Runs each test of a class, so that none can be left out: its static methods without parameters. */
    static void all(Class<?> tests) {
        Method[] methods = tests.getDeclaredMethods();
        Arrays.sort(methods, Comparator.comparing(Method::getName));
        int ran = 0;
        for (Method test : methods) {
            if (Modifier.isStatic(test.getModifiers()) && test.getParameterCount() == 0
                    && test.getReturnType() == void.class) {
                running = test.getName() + ": ";
                runOne(test);
                ran++;
            }
        }
        running = "";
        finish(tests.getSimpleName() + ", " + ran + " tests");
    }

    private static void runOne(Method test) {
        try {
            test.setAccessible(true);
            test.invoke(null);
        } catch (InvocationTargetException thrown) {
            holds("no call throws " + thrown.getCause(), false);
        } catch (IllegalAccessException hidden) {
            holds("the test can be reached", false);
        }
    }

    static void holds(String what, boolean is) {
        due(what, is ? 1 : 0, 1);
    }

    /** Puts a text behind an empty tape: its length, or -1 if the tape did not take it. */
    static int tell(GrainBench x, String text) {
        int[] five = new int[5];
        int length = text.length();
        for (int from = 0; from < length; from += 20) {
            for (int i = 0; i < 5; i++) {
                five[i] = 0;
                for (int j = 0; j < 4; j++) {
                    int at = from + 4 * i + j;
                    five[i] = five[i] << 8 | (at < length ? text.charAt(at) : 0);
                }
            }
            if (x.feed(five[0], five[1], five[2], five[3], five[4]) == GrainBench.NONE) {
                return GrainBench.NONE;
            }
        }
        return x.end(length);
    }

    static void bench(GrainBench x, int bench, String text, int want) {
        tell(x, text);
        due("bench(" + bench + ") of '" + text + "'", x.bench(bench), want);
    }

    /** A new object with such a bench 0; the text has to be good. */
    static GrainBench with(String text) {
        GrainBench x = new GrainBench();
        tell(x, text);
        holds("bench(0) of '" + text + "' is taken", x.bench(0) >= 0);
        return x;
    }

    /** A new object with grains in these modes. */
    static GrainBench lit(int... modes) {
        GrainBench x = new GrainBench();
        for (int mode : modes) {
            x.grain(mode);
        }
        return x;
    }

    /** A text that a bench has to refuse, and where. */
    static void fault(GrainBench x, String text, int place) {
        bench(x, 0, text, -6);
        due("fault of '" + text + "'", x.fault(), place);
    }

    /** A text of one part, so many times. */
    static String times(int many, String part) {
        return (part + ";").repeat(many - 1) + part;
    }

    static void way(GrainBench x, int from, int to, long... want) {
        for (int what = 0; what < want.length; what++) {
            due("way(0, " + from + ", " + to + ", " + what + ")", x.way(0, from, to, what), want[what]);
        }
    }

    static void shelf(GrainBench x, String text, int want) {
        tell(x, text);
        due("shelf() of '" + text + "'", x.shelf(), want);
    }

    static void odds(GrainBench x, String name, int bench, int[] row, long[] want) {
        for (int what = 0; what < 3; what++) {
            due(name + ", odds part " + what,
                    x.odds(bench, row[0], row[1], row[2], row[3], row[4], what), want[what]);
        }
    }

    static void clicks(GrainBench x, String name, int bench, int bits, long[] want) {
        for (int what = 0; what < 3; what++) {
            due(name + ", clicks part " + what, x.clicks(bench, bits, what), want[what]);
        }
    }

    static int[] row(int... counts) {
        return counts;
    }

    static long[] share(long... parts) {
        return parts;
    }

    static void finish(String name) {
        System.out.println(wrong == 0 ? name + ": all answers are as due" : name + ": " + wrong + " answers are not as due");
        if (wrong != 0) {
            System.exit(1);
        }
    }
}
