import java.io.IOException;
import java.lang.management.ManagementFactory;
import java.lang.reflect.Constructor;
import java.lang.reflect.Field;
import java.lang.reflect.Method;
import java.lang.reflect.Modifier;
import java.nio.file.Files;
import java.nio.file.Path;
import java.util.ArrayList;
import java.util.HashSet;
import java.util.List;
import java.util.Map;
import java.util.Set;
import java.util.TreeMap;
import java.util.TreeSet;
import java.util.regex.Matcher;
import java.util.regex.Pattern;

/** The face, what of LANGUAGE.md can be seen by looking, and that calls make no objects. */
public final class LanguageTests {
    private static final String[] FACE = {
        "int grain(int)", "int clear()", "int feed(int,int,int,int,int)", "int end(int)", "int bench(int)", "int shelf()",
        "int fault()", "int deep(int)", "int way(int,int,int,int)", "long odds(int,int,int,int,int,int,int)",
        "int dark(int,int)", "long clicks(int,int,int)", "int run(int,int,int)", "int counted(int,int,int)",
        "int wrong(int,int)", "int misfit(int,int)", "int fits(int)", "int pairs(int,int,int)", "long notes(int,int)",
        "int plan(int,int,int,int,int,int)", "long planned(int)", "int build(int)", "int count(int)", "int status()"};

    public static void main(String[] args) throws IOException {
        face();
        source(Files.readString(Path.of("src/main/java/GrainBench.java")));
        depth(Files.readString(Path.of("src/main/java/GrainBench.java")));
        room();
        edges();
        Due.finish("LanguageTests");
    }

    private static void face() {
        Class<?> c = GrainBench.class;
        Due.holds("public and final", c.getModifiers() == (Modifier.PUBLIC | Modifier.FINAL));
        Set<String> open = new TreeSet<>();
        Set<String> names = new HashSet<>();
        for (Method m : c.getDeclaredMethods()) {
            if (!Modifier.isPrivate(m.getModifiers())) {
                Due.holds(m + " is public", m.getModifiers() == Modifier.PUBLIC);
                open.add(m.toString().replace("public ", "").replace("GrainBench.", ""));
                names.add(m.getName());
            }
        }
        Due.holds("the methods of the face", open.equals(new TreeSet<>(List.of(FACE))));
        for (Constructor<?> k : c.getDeclaredConstructors()) {
            Due.holds("the constructor", k.getModifiers() == Modifier.PUBLIC && k.getParameterCount() == 0);
        }
        for (Field f : c.getDeclaredFields()) {
            boolean constant = f.getModifiers() == (Modifier.PUBLIC | Modifier.STATIC | Modifier.FINAL);
            Due.holds("field " + f.getName(), Modifier.isPrivate(f.getModifiers()) || constant && f.getName().equals("NONE"));
        }
        Due.due("NONE", GrainBench.NONE, -1);
        List<Class<?>> all = new ArrayList<>(List.of(c.getDeclaredClasses()));
        Due.holds("at most twelve classes", all.size() < 12);
        all.add(c);
        for (Class<?> k : all) {
            int fields = 0;
            for (Field f : k.getDeclaredFields()) {
                fields += Modifier.isStatic(f.getModifiers()) ? 0 : 1;
                Due.holds(f + " is no open state", !Modifier.isStatic(f.getModifiers()) || Modifier.isFinal(f.getModifiers()));
            }
            Due.holds(k + " has at most twenty fields", fields <= 20);
            for (Method m : k.getDeclaredMethods()) {
                Due.holds(m + " has at most seven parameters", m.getParameterCount() <= 7);
                Due.holds(m + " bears no name of the face", Modifier.isPublic(m.getModifiers()) || !names.contains(m.getName()));
            }
        }
    }

    private static void source(String text) {
        String code = text.replaceAll("(?s)/\\*.*?\\*/", "").replaceAll("//[^\n]*", "");
        String[] never = {"\\bthrow\\b", "\\btry\\b", "\\bcatch\\b", "\\bsynchronized\\b", "\\bassert\\b", "->", "::",
            "\\bimport\\b", "\\bpackage\\b", "Exact\\b", "\\bObject\\b", "\\bvar\\b", "hashCode", "toString", "\\bstatic\\s*\\{",
            "System\\.(?!arraycopy)", "\\bRandom\\b", "\\bThread\\b"};
        for (String word : never) {
            Due.holds("no " + word, !Pattern.compile(word).matcher(code).find());
        }
        for (int i = 0; i < text.length(); i++) {
            Due.holds("signs of 1 to 127 alone", text.charAt(i) < 128);
        }
        Matcher head = Pattern.compile("(?m)^( +)(?:private|public) [^=;]*\\) \\{$").matcher(text);
        while (head.find()) {
            int stop = text.indexOf("\n" + head.group(1) + "}\n", head.end());
            long lines = text.substring(head.start(), stop).lines().count();
            Due.holds(head.group().trim() + " is short", lines <= 60);
        }
    }

    /** Calls go at most eight deep. Methods of one name are taken for one, so the depth is never told too low. */
    private static void depth(String text) {
        String code = text.replaceAll("(?s)/\\*.*?\\*/", "").replaceAll("//[^\n]*", "");
        Map<String, Set<String>> calls = new TreeMap<>();
        Matcher head = Pattern.compile("(?m)^( +)(?:private|public) [^=;(]*?(\\w+)\\([^=;]*\\) \\{$").matcher(code);
        while (head.find()) {
            String body = code.substring(head.end(), code.indexOf("\n" + head.group(1) + "}\n", head.end()));
            Set<String> called = calls.computeIfAbsent(head.group(2), name -> new TreeSet<>());
            Matcher call = Pattern.compile("(\\w+)\\(").matcher(body);
            while (call.find()) {
                called.add(call.group(1));
            }
        }
        Due.holds("methods were found", calls.size() > 100);
        for (String name : calls.keySet()) {
            List<String> chain = deepest(name, calls, 0);
            Due.holds(chain + " is at most eight deep", chain.size() <= 8);
        }
    }

    /** The longest chain of calls from a method on; one that goes in a ring is cut far above eight. */
    private static List<String> deepest(String name, Map<String, Set<String>> calls, int above) {
        List<String> longest = new ArrayList<>();
        if (above < 12) {
            for (String next : calls.get(name)) {
                List<String> chain = calls.containsKey(next) ? deepest(next, calls, above + 1) : List.of();
                longest = chain.size() > longest.size() ? chain : longest;
            }
        }
        List<String> whole = new ArrayList<>(List.of(name));
        whole.addAll(longest);
        return whole;
    }

    /** Beside each test of an edge a comment names its promise, and no promise is left out. */
    private static void edges() throws IOException {
        StringBuilder comments = new StringBuilder();
        for (String name : new String[] {"TextEdges", "LightEdges", "RunEdges", "PlanEdges"}) {
            String text = Files.readString(Path.of("src/test/java/" + name + ".java"));
            Matcher test = Pattern.compile("(?m)((?:^    //.*\n)*)^    static void (\\w+)\\(\\)").matcher(text);
            while (test.find()) {
                Due.holds(name + "." + test.group(2) + " names its promise", test.group(1).contains("romise"));
                comments.append(test.group(1));
            }
        }
        for (int promise = 1; promise <= 25; promise++) {
            Pattern named = Pattern.compile("Promises? (\\d+(, | and ))*" + promise + "\\b");
            Due.holds("promise " + promise + " has tests of its edges", named.matcher(comments).find());
        }
    }

    /** All calls of a run live in one room, so calls use the rows that the constructor made. */
    private static void room() {
        com.sun.management.ThreadMXBean meter = (com.sun.management.ThreadMXBean) ManagementFactory.getThreadMXBean();
        long self = Thread.currentThread().getId();
        heavy(new GrainBench());
        long before = meter.getThreadAllocatedBytes(self);
        GrainBench x = new GrainBench();
        long made = meter.getThreadAllocatedBytes(self) - before;
        Due.holds("an object is small: " + made + " bytes", made < 400000);
        before = meter.getThreadAllocatedBytes(self);
        long sum = heavy(x);
        long calls = meter.getThreadAllocatedBytes(self) - before;
        Due.holds("calls make no objects: " + calls + " bytes", calls < 40000);
        Due.holds("they were made", sum != 0);
    }

    private static long heavy(GrainBench x) {
        String[] shelf = {"split 0 1 half", "turn 0 half", "split 1 2 four", "swap 0 3", "shift 1 mark 0 1", "turn 1 half",
            "split 0 4 half", "split 3 4 half"};
        long sum = 0;
        for (int i = 0; i < 8; i++) {
            Due.tell(x, shelf[i]);
            sum += x.shelf();
        }
        for (int i = 0; i < 4; i++) {
            Due.tell(x, "split 0 1 half;turn 1 half;lose 0 half;split 1 2 half;count 0;if 0 = 0 do split 2 3 half;lose 3 half");
            sum += x.bench(i);
        }
        for (int i = 0; i < 40; i++) {
            x.clear();
            x.grain(i % 10);
            x.grain(1);
            x.grain(2);
            sum += x.run(i % 4, i % 32, i) + x.fits(i) + x.notes(i, 0) + x.misfit(i % 4, i) + x.wrong(0, i);
            sum += x.plan(3, 1, 1, 0, 0, 1) + x.build(3) + x.odds(2, 1, 0, 1, 0, 0, 0) + x.clicks(1, 7, 2) + x.way(0, 0, 2, 1);
        }
        return sum;
    }
}
