import java.io.IOException;
import java.lang.reflect.InvocationTargetException;
import java.lang.reflect.Method;
import java.nio.file.Files;
import java.nio.file.Path;
import java.util.regex.Matcher;
import java.util.regex.Pattern;

/** Makes each call that README.md shows and compares with the answer that its comment tells. */
public final class ReadmeTests {
    private static final Pattern CALL = Pattern.compile("x\\.(\\w+)\\(([^)]*)\\); *// (-?\\d+)(?:: .*)?");

    public static void main(String[] args) throws IOException, IllegalAccessException {
        int called = 0;
        boolean inCode = false;
        GrainBench x = null;
        for (String line : Files.readAllLines(Path.of("README.md"))) {
            if (line.startsWith("```")) {
                inCode = line.equals("```java");
            } else if (inCode && line.equals("GrainBench x = new GrainBench();")) {
                x = new GrainBench();
            } else if (inCode) {
                call(x, line);
                called++;
            }
        }
        Due.holds("README.md shows calls", called > 0);
        Due.finish("ReadmeTests, " + called + " calls");
    }

    private static void call(GrainBench x, String line) throws IllegalAccessException {
        Matcher m = CALL.matcher(line);
        Due.holds("a call with its answer: " + line, m.matches());
        if (!m.matches()) {
            return;
        }
        String[] words = m.group(2).isEmpty() ? new String[0] : m.group(2).split(", ");
        Object[] numbers = new Object[words.length];
        for (int i = 0; i < words.length; i++) {
            numbers[i] = Integer.decode(words[i]);
        }
        int met = 0;
        for (Method method : GrainBench.class.getMethods()) {
            if (method.getName().equals(m.group(1)) && method.getParameterCount() == words.length) {
                met++;
                Due.due(line, answer(method, x, numbers), Long.parseLong(m.group(3)));
            }
        }
        Due.due("methods for " + line, met, 1);
    }

    private static long answer(Method method, GrainBench x, Object[] numbers) throws IllegalAccessException {
        try {
            return ((Number) method.invoke(x, numbers)).longValue();
        } catch (InvocationTargetException thrown) {
            throw new IllegalStateException(thrown.getCause());
        }
    }
}
