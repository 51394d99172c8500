import java.io.IOException;
import java.lang.reflect.Constructor;
import java.lang.reflect.Field;
import java.lang.reflect.Method;
import java.lang.reflect.Modifier;
import java.nio.file.Files;
import java.nio.file.Path;
import java.util.ArrayList;
import java.util.Arrays;
import java.util.Collections;
import java.util.List;
import java.util.regex.Matcher;
import java.util.regex.Pattern;

/** The public face is the document's and no more, and the source keeps to what LANGUAGE.md says of words. */
public final class FaceTest {
    private static final String[] FACE = {
        "int NONE", "BuildCounter()", "int make(int, int)", "int drop(int)", "int numbers(int)",
        "int about(int, int)", "int collect(int, int)", "int collected(int)",
        "boolean define(int, int, int, long, long)", "int answer(int, long)", "boolean fails(int, int, int)",
        "long call(int, int, long)", "boolean build(int, int)", "int turn(int)", "int building(int, int)",
        "int told(int, int)", "long value(int)", "int count(int)"};
    private static final Pattern FORBIDDEN = Pattern.compile(
        "\\b(throws?|try|catch|finally|synchronized|assert|import|package|hashCode|toString)\\b"
        + "|\\bstatic\\s*\\{|->|::|\\w+Exact\\b");
    private static final Pattern CLASS_NAME = Pattern.compile("\\b[A-Z][A-Za-z]*[a-z][A-Za-z]*\\b");
    private static final List<String> LIBRARY = List.of("String", "StringBuilder", "Integer", "Long", "Math", "System");
    private static final List<Class<?>> TYPES_OF_CONSTANTS = List.of(int.class, long.class, boolean.class, char.class,
        String.class, int[].class, long[].class, char[].class, byte[].class);
    private static final int MOST_CLASSES = 12;
    private static final int MOST_FIELDS = 20;
    private static final int MOST_PARAMETERS = 7;
    private static int wrong = 0;

    public static void main(String[] args) throws IOException {
        face();
        insideClasses();
        members();
        words();
        System.out.println(wrong + " faults of the face or the source");
        if (wrong != 0) {
            System.exit(1);
        }
    }

    private static void fault(String what) {
        wrong++;
        System.out.println(what);
    }

    private static String types(Class<?>[] types) {
        List<String> names = new ArrayList<>();
        for (Class<?> type : types) {
            names.add(type.getName());
        }
        return "(" + String.join(", ", names) + ")";
    }

    private static void face() {
        int modifiers = BuildCounter.class.getModifiers();
        if (!Modifier.isPublic(modifiers) || !Modifier.isFinal(modifiers)) {
            fault("the class is not public and final");
        }
        List<String> seen = new ArrayList<>();
        List<String> hidden = new ArrayList<>();
        for (Field f : BuildCounter.class.getDeclaredFields()) {
            if (!Modifier.isPrivate(f.getModifiers())) {
                seen.add(f.getType() + " " + f.getName());
            }
        }
        for (Constructor<?> c : BuildCounter.class.getDeclaredConstructors()) {
            seen.add("BuildCounter" + types(c.getParameterTypes()));
        }
        for (Method m : BuildCounter.class.getDeclaredMethods()) {
            if (Modifier.isPrivate(m.getModifiers())) {
                hidden.add(m.getName());
            } else {
                seen.add(m.getReturnType() + " " + m.getName() + types(m.getParameterTypes()));
            }
        }
        List<String> due = new ArrayList<>(Arrays.asList(FACE));
        Collections.sort(due);
        Collections.sort(seen);
        if (!due.equals(seen)) {
            fault("the face is " + seen + ", due is " + due);
        }
        for (String name : hidden) {
            if (String.join("\n", FACE).contains(" " + name + "(")) {
                fault("a private method bears a public one's name: " + name);
            }
        }
    }

    private static List<Class<?>> allClasses() {
        List<Class<?>> all = new ArrayList<>();
        all.add(BuildCounter.class);
        all.addAll(Arrays.asList(BuildCounter.class.getDeclaredClasses()));
        return all;
    }

    private static void insideClasses() {
        if (allClasses().size() > MOST_CLASSES) {
            fault("more than twelve classes");
        }
        for (Class<?> c : BuildCounter.class.getDeclaredClasses()) {
            if (!Modifier.isStatic(c.getModifiers()) || Modifier.isPublic(c.getModifiers())) {
                fault("a class inside that is public or not static: " + c.getName());
            }
        }
    }

    private static void members() {
        for (Class<?> c : allClasses()) {
            int fields = 0;
            for (Field f : c.getDeclaredFields()) {
                if (!Modifier.isStatic(f.getModifiers())) {
                    fields++;
                } else if (!Modifier.isFinal(f.getModifiers()) || !TYPES_OF_CONSTANTS.contains(f.getType())) {
                    fault("a static field that is no constant: " + f);
                }
            }
            if (fields > MOST_FIELDS) {
                fault("a class of more than twenty fields: " + c.getName());
            }
            for (Method m : c.getDeclaredMethods()) {
                if (m.getParameterCount() > MOST_PARAMETERS) {
                    fault("a method of more than seven parameters: " + m);
                }
            }
        }
    }

    private static void words() throws IOException {
        String source = Files.readString(Path.of(
            System.getProperty("buildcounter.root"), "src", "main", "java", "BuildCounter.java"));
        String code = source.replaceAll("(?s)/\\*.*?\\*/", "").replaceAll("//[^\n]*", "");
        Matcher found = FORBIDDEN.matcher(code);
        while (found.find()) {
            fault("the source uses " + found.group());
        }
        List<String> known = new ArrayList<>(LIBRARY);
        allClasses().forEach(c -> known.add(c.getSimpleName()));
        Matcher name = CLASS_NAME.matcher(code);
        while (name.find()) {
            if (!known.contains(name.group())) {
                fault("the source uses " + name.group());
            }
        }
    }
}
