import java.io.IOException;
import java.lang.reflect.InvocationTargetException;
import java.lang.reflect.Method;
import java.lang.reflect.Modifier;
import java.nio.file.Files;
import java.nio.file.Path;
import java.util.Arrays;
import java.util.List;
import java.util.TreeSet;
import java.util.regex.Matcher;
import java.util.regex.Pattern;

/** The calls that README.md shows have the answers that it shows, and it tells of every call. */
public final class ReadmeTest {
    private static final Pattern TELL = Pattern.compile("tell\\(t, \"([^\"]*)\"\\);");
    private static final Pattern CALL = Pattern.compile("t\\.(\\w+)\\(([^)]*)\\); +// (.*)");
    private static final Pattern ANSWER = Pattern.compile(
            "(-?\\d+|NONE|true|false|throws NoSuchElementException)(?:, ROW (stays|empty|-?\\d+(?: -?\\d+)*))?(?:: .+)?");
    private static final Pattern NAMED = Pattern.compile("^\\| `(\\w+)\\(([^)]*)\\)` \\|");

    private static final TreeSet<String> shown = new TreeSet<>();
    private static final TreeSet<String> named = new TreeSet<>();
    private static TypeLevels t;
    // the ROW as it was seen last, so that the object is asked no more than its 512 calls
    private static String seen;
    private static int calls;
    private static int asked;
    private static int wrong;

    // README.md shows this method to callers, line by line
    static void tell(TypeLevels t, String text) {
        t.end(0);
        for (int i = 0; i < text.length(); i += 4) {
            int v = 0;
            for (int k = i; k < i + 4; k++) {
                v = v << 8 | (k < text.length() ? text.charAt(k) : ' ');
            }
            t.sign(v);
        }
        t.end(text.length());
    }

    private static void due(String what, Object got, Object want) {
        asked++;
        if (!got.equals(want)) {
            wrong++;
            System.out.println("README.md, " + what + ": is " + got + ", due is " + want);
        }
    }

    private static String rowNow() {
        StringBuilder row = new StringBuilder();
        int numbers = t.count(7);
        calls += 1 + numbers;
        for (int i = 0; i < numbers; i++) {
            row.append(i > 0 ? " " : "").append(t.row(i));
        }
        return row.length() > 0 ? row.toString() : "empty";
    }

    private static Method methodOf(String name, int parameters) {
        for (Method m : TypeLevels.class.getDeclaredMethods()) {
            if (Modifier.isPublic(m.getModifiers()) && m.getName().equals(name) && m.getParameterCount() == parameters) {
                return m;
            }
        }
        return null;
    }

    private static Object[] numbers(String told) {
        return told.isEmpty() ? new Object[0] : Arrays.stream(told.split(", ")).map(Integer::decode).toArray();
    }

    private static String answerOf(Method m, Object[] with) throws IllegalAccessException {
        calls++;
        try {
            return String.valueOf(m.invoke(t, with));
        } catch (InvocationTargetException e) {
            return "throws " + e.getCause().getClass().getSimpleName();
        }
    }

    private static void call(String line, Matcher parts) throws IllegalAccessException {
        Object[] with = numbers(parts.group(2));
        Method m = methodOf(parts.group(1), with.length);
        Matcher told = ANSWER.matcher(parts.group(3));
        if (t == null || m == null || !told.matches()) {
            due(line, "not a call with its answer", "one");
            return;
        }
        shown.add(m.getName());
        String want = told.group(1).equals("NONE") ? String.valueOf(TypeLevels.NONE) : told.group(1);
        due(line, answerOf(m, with), want);
        if (told.group(2) != null) {
            String before = seen;
            seen = rowNow();
            due(line + " (ROW)", seen, told.group(2).equals("stays") ? before : told.group(2));
        }
    }

    private static void example(String line) throws IllegalAccessException {
        Matcher text = TELL.matcher(line);
        Matcher parts = CALL.matcher(line);
        if (line.equals("TypeLevels t = new TypeLevels();")) {
            t = new TypeLevels();
            seen = "empty";
            calls = 0;
        } else if (text.matches() && t != null) {
            calls += 2 + (text.group(1).length() + 3) / 4;
            tell(t, text.group(1));
        } else if (parts.matches()) {
            call(line, parts);
        } else {
            due(line, "neither a text nor a call with its answer", "one of these");
        }
    }

    /** A block of the page: the method tell, or calls. */
    private static void block(List<String> lines, String source) throws IllegalAccessException {
        if (lines.get(0).startsWith("static ")) {
            String method = "    " + String.join("\n    ", lines) + "\n";
            due("the method tell is the one that is tried", source.contains(method), true);
            return;
        }
        for (String line : lines) {
            example(line);
        }
    }

    private static void blocks(List<String> page, String source) throws IllegalAccessException {
        int from = -1;
        for (int i = 0; i < page.size(); i++) {
            String line = page.get(i);
            Matcher call = NAMED.matcher(line);
            if (line.equals("```java")) {
                from = i + 1;
            } else if (line.equals("```") && from >= 0) {
                block(page.subList(from, i), source);
                from = -1;
            } else if (call.find()) {
                int parameters = call.group(2).isEmpty() ? 0 : call.group(2).split(", ").length;
                due(line, methodOf(call.group(1), parameters) != null, true);
                named.add(call.group(1));
            }
        }
        due("blocks end", from, -1);
    }

    public static void main(String[] args) throws IOException, IllegalAccessException {
        String source = Files.readString(Path.of("src/test/java/ReadmeTest.java"));
        blocks(Files.readAllLines(Path.of("README.md")), source);
        TreeSet<String> face = new TreeSet<>();
        for (Method m : TypeLevels.class.getDeclaredMethods()) {
            if (Modifier.isPublic(m.getModifiers())) {
                face.add(m.getName());
            }
        }
        due("512 calls suffice", calls <= 512, true);
        due("the calls of the tables", named, face);
        due("the calls with their answers", shown, face);
        System.out.println("readme: " + asked + " asked, " + wrong + " wrong");
        if (wrong > 0) {
            System.exit(1);
        }
    }
}
