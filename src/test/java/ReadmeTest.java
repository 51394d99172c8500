import java.io.IOException;
import java.lang.reflect.Method;
import java.lang.reflect.Modifier;
import java.nio.file.DirectoryStream;
import java.nio.file.Files;
import java.nio.file.Path;
import java.util.HashSet;
import java.util.Set;
import java.util.regex.Matcher;
import java.util.regex.Pattern;

/** README.md tells the truth: its calls answer what stands behind them, and its tests are those there are. */
public final class ReadmeTest {
    private static final String FIRST = "BuildCounter desk = new BuildCounter();";
    private static final Pattern SHOWN = Pattern.compile("desk\\.(\\w+)\\(([^)]*)\\); +// (-?\\d+|true|false): .*");
    private static final Path ROOT = Path.of(System.getProperty("buildcounter.root"));

    private final Set<String> shown = new HashSet<>();
    private BuildCounter desk = null;
    private int calls = 0;
    private int wrong = 0;

    public static void main(String[] args) throws IOException, ReflectiveOperationException {
        ReadmeTest test = new ReadmeTest();
        String readme = Files.readString(ROOT.resolve("README.md"));
        test.answers(readme);
        test.everyMethod();
        test.everyTest(readme);
        System.out.println(test.calls + " calls shown, " + test.wrong + " faults of README.md");
        if (test.wrong != 0) {
            System.exit(1);
        }
    }

    private void fault(String what) {
        wrong++;
        System.out.println(what);
    }

    private void answers(String readme) throws ReflectiveOperationException {
        boolean inCode = false;
        for (String line : readme.split("\n")) {
            if (line.startsWith("```")) {
                inCode = line.equals("```java");
            } else if (inCode && line.equals(FIRST)) {
                desk = new BuildCounter();
            } else if (inCode) {
                answer(line);
            }
        }
    }

    private void answer(String line) throws ReflectiveOperationException {
        Matcher parts = SHOWN.matcher(line);
        Method method = parts.matches() ? methodOf(parts.group(1)) : null;
        if (method == null || desk == null) {
            fault("no call with its answer: " + line);
            return;
        }
        calls++;
        shown.add(method.getName());
        String got = String.valueOf(method.invoke(desk, arguments(method, parts.group(2))));
        if (!got.equals(parts.group(3))) {
            fault("answered " + got + ": " + line);
        }
    }

    private static Method methodOf(String name) {
        for (Method m : BuildCounter.class.getDeclaredMethods()) {
            if (Modifier.isPublic(m.getModifiers()) && m.getName().equals(name)) {
                return m;
            }
        }
        return null;
    }

    private static Object[] arguments(Method method, String list) {
        String[] texts = list.split(", ");
        Object[] values = new Object[texts.length];
        for (int n = 0; n < texts.length; n++) {
            long v = texts[n].equals("BuildCounter.NONE") ? BuildCounter.NONE : Long.parseLong(texts[n]);
            if (method.getParameterTypes()[n] == long.class) {
                values[n] = v;
            } else {
                values[n] = Math.toIntExact(v);
            }
        }
        return values;
    }

    private void everyMethod() {
        for (Method m : BuildCounter.class.getDeclaredMethods()) {
            if (Modifier.isPublic(m.getModifiers()) && !shown.contains(m.getName())) {
                fault("not shown: " + m.getName());
            }
        }
    }

    private void everyTest(String readme) throws IOException {
        Set<String> named = new HashSet<>();
        Matcher row = Pattern.compile("(?m)^\\| `(\\w+Test)` \\|").matcher(readme);
        while (row.find()) {
            named.add(row.group(1) + ".java");
        }
        Set<String> there = new HashSet<>();
        try (DirectoryStream<Path> files = Files.newDirectoryStream(ROOT.resolve("src/test/java"), "*Test.java")) {
            files.forEach(file -> there.add(file.getFileName().toString()));
        }
        if (!named.equals(there)) {
            fault("the tests named are " + named + ", there are " + there);
        }
    }
}
