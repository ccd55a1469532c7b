import java.lang.reflect.Method;
import java.lang.reflect.Modifier;
import java.nio.file.Files;
import java.nio.file.Path;
import java.util.ArrayList;
import java.util.List;
import java.util.Set;
import java.util.TreeSet;
import java.util.regex.Matcher;
import java.util.regex.Pattern;
import java.util.stream.Stream;

/** What README.md shows holds: each call answers as it says, and the tests that it names are those there are. */
public final class ReadmeTest {
    private static final Pattern MADE = Pattern.compile("ChordFolds x = new ChordFolds\\(\\);(\\s*//.*)?");
    private static final Pattern CALL = Pattern.compile("x\\.(\\w+)\\(([^)]*)\\);\\s*// (-?\\d+)(: .*)?");
    private static final Pattern TEST_NAME = Pattern.compile("(?m)^- `(\\w+Test)`");
    private static int wrong = 0;

    private static void must(boolean holds, String what) {
        if (!holds) {
            wrong++;
            System.out.println("not so: " + what);
        }
    }

    private static List<String> shownLines(String text) {
        List<String> lines = new ArrayList<>();
        Matcher block = Pattern.compile("```java\n(.*?)```", Pattern.DOTALL).matcher(text);
        while (block.find()) {
            for (String line : block.group(1).split("\n")) {
                if (!line.isBlank()) {
                    lines.add(line.strip());
                }
            }
        }
        return lines;
    }

    private static Method method(String name) {
        for (Method m : ChordFolds.class.getDeclaredMethods()) {
            if (Modifier.isPublic(m.getModifiers()) && m.getName().equals(name)) {
                return m;
            }
        }
        return null;
    }

    private static long answer(ChordFolds x, Method m, String told) throws Exception {
        String[] texts = told.isBlank() ? new String[0] : told.split(",");
        Object[] values = new Object[texts.length];
        for (int i = 0; i < texts.length; i++) {
            long v = Long.parseLong(texts[i].strip());
            if (m.getParameterTypes()[i] == long.class) {
                values[i] = v;
            } else {
                values[i] = Math.toIntExact(v);
            }
        }
        return ((Number) m.invoke(x, values)).longValue();
    }

    private static void calls(String text) throws Exception {
        ChordFolds x = null;
        Set<String> shown = new TreeSet<>();
        for (String line : shownLines(text)) {
            Matcher call = CALL.matcher(line);
            if (MADE.matcher(line).matches()) {
                x = new ChordFolds();
            } else if (x != null && call.matches() && method(call.group(1)) != null) {
                shown.add(call.group(1));
                long got = answer(x, method(call.group(1)), call.group(2));
                must(got == Long.parseLong(call.group(3)), line + " .. it answered " + got);
            } else {
                must(false, "a call with its answer: " + line);
            }
        }
        for (Method m : ChordFolds.class.getDeclaredMethods()) {
            must(!Modifier.isPublic(m.getModifiers()) || shown.contains(m.getName()), m.getName() + " is shown");
        }
    }

    private static void tests(String text) throws Exception {
        must(text.contains("\n    .ci/run\n"), "the command that runs all tests is named");
        must(Files.isExecutable(Path.of(".ci/run")), ".ci/run can be run");
        Set<String> named = new TreeSet<>();
        Matcher m = TEST_NAME.matcher(text);
        while (m.find()) {
            named.add(m.group(1));
        }
        Set<String> there = new TreeSet<>();
        try (Stream<Path> files = Files.list(Path.of("src/test/java"))) {
            files.forEach(f -> there.add(f.getFileName().toString().replace(".java", "")));
        }
        must(named.equals(there), "the tests named, " + named + ", are those there are, " + there);
    }

    public static void main(String[] args) throws Exception {
        String text = Files.readString(Path.of("README.md"));
        calls(text);
        tests(text);
        System.out.println(wrong == 0 ? "what is shown holds" : wrong + " things shown do not hold");
        if (wrong != 0) {
            System.exit(1);
        }
    }
}
