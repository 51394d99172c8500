import java.io.IOException;
import java.lang.reflect.Constructor;
import java.lang.reflect.Field;
import java.lang.reflect.Method;
import java.lang.reflect.Modifier;
import java.nio.file.Files;
import java.nio.file.Path;
import java.util.ArrayList;
import java.util.Arrays;
import java.util.Collections;
import java.util.List;
import java.util.regex.Matcher;
import java.util.regex.Pattern;

/** The public face is the document's and no more, and the source keeps to what LANGUAGE.md says of words. */
public final class FaceTest {
    private static final String[] FACE = {
        "int NONE", "BuildCounter()", "int make(int, int)", "int drop(int)", "int numbers(int)",
        "int about(int, int)", "int collect(int, int)", "int collected(int)",
        "boolean define(int, int, int, long, long)", "int answer(int, long)", "boolean fails(int, int, int)",
        "long call(int, int, long)", "boolean build(int, int)", "int turn(int)", "int building(int, int)",
        "int told(int, int)", "long value(int)", "int count(int)"};
    private static final Pattern FORBIDDEN = Pattern.compile(
        "\\b(throws?|try|catch|finally|synchronized|assert|import|package|hashCode|toString)\\b"
        + "|\\bstatic\\s*\\{|->|::");
    private static int wrong = 0;

    public static void main(String[] args) throws IOException {
        face();
        insideClasses();
        words();
        System.out.println(wrong + " faults of the face or the source");
        if (wrong != 0) {
            System.exit(1);
        }
    }

    private static void fault(String what) {
        wrong++;
        System.out.println(what);
    }

    private static String types(Class<?>[] types) {
        List<String> names = new ArrayList<>();
        for (Class<?> type : types) {
            names.add(type.getName());
        }
        return "(" + String.join(", ", names) + ")";
    }

    private static void face() {
        int modifiers = BuildCounter.class.getModifiers();
        if (!Modifier.isPublic(modifiers) || !Modifier.isFinal(modifiers)) {
            fault("the class is not public and final");
        }
        List<String> seen = new ArrayList<>();
        List<String> hidden = new ArrayList<>();
        for (Field f : BuildCounter.class.getDeclaredFields()) {
            if (!Modifier.isPrivate(f.getModifiers())) {
                seen.add(f.getType() + " " + f.getName());
            } else if (Modifier.isStatic(f.getModifiers()) && !Modifier.isFinal(f.getModifiers())) {
                fault("a static field that is not final: " + f.getName());
            }
        }
        for (Constructor<?> c : BuildCounter.class.getDeclaredConstructors()) {
            seen.add("BuildCounter" + types(c.getParameterTypes()));
        }
        for (Method m : BuildCounter.class.getDeclaredMethods()) {
            if (Modifier.isPrivate(m.getModifiers())) {
                hidden.add(m.getName());
            } else {
                seen.add(m.getReturnType() + " " + m.getName() + types(m.getParameterTypes()));
            }
        }
        List<String> due = new ArrayList<>(Arrays.asList(FACE));
        Collections.sort(due);
        Collections.sort(seen);
        if (!due.equals(seen)) {
            fault("the face is " + seen + ", due is " + due);
        }
        for (String name : hidden) {
            if (String.join("\n", FACE).contains(" " + name + "(")) {
                fault("a private method bears a public one's name: " + name);
            }
        }
    }

    private static void insideClasses() {
        Class<?>[] inside = BuildCounter.class.getDeclaredClasses();
        if (inside.length > 11) {
            fault("more than twelve classes");
        }
        for (Class<?> c : inside) {
            if (!Modifier.isStatic(c.getModifiers()) || Modifier.isPublic(c.getModifiers())) {
                fault("a class inside that is public or not static: " + c.getName());
            }
        }
    }

    private static void words() throws IOException {
        String source = Files.readString(Path.of(System.getProperty("buildcounter.source")));
        String code = source.replaceAll("(?s)/\\*.*?\\*/", "").replaceAll("//[^\n]*", "");
        Matcher found = FORBIDDEN.matcher(code);
        while (found.find()) {
            fault("the source uses " + found.group());
        }
    }
}
