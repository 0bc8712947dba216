import java.io.IOException;
import java.lang.reflect.InvocationTargetException;
import java.lang.reflect.Method;
import java.lang.reflect.Modifier;
import java.net.URL;
import java.net.URLClassLoader;
import java.nio.file.Files;
import java.nio.file.Path;
import java.util.ArrayList;
import java.util.Comparator;
import java.util.List;
import java.util.regex.Matcher;
import java.util.regex.Pattern;
import java.util.stream.Stream;
import javax.tools.JavaCompiler;
import javax.tools.ToolProvider;

// What README.md shows is what the class answers: its Java examples are taken out of it, compiled and run, so that
// no second copy of them can differ from what a reader sees.
public final class AlertRowsReadme {
    private static final Path README = Path.of("README.md");

    /** A statement and what stands behind it: an answer, a refusal, or only words. */
    private static final Pattern SHOWN = Pattern.compile("^(.*;)\\s*// (?:(-?[0-9]+)|throws ([A-Za-z]+))(?:: .*)?$");
    private static final Pattern MADE = Pattern.compile("^\\s*int ([a-z]+) = (.*);$");
    /** Words behind a statement that begin like an answer, but are not one that SHOWN can read. */
    private static final Pattern LIKE_AN_ANSWER = Pattern.compile("^.*// *(-?[0-9]|throw).*$");

    private static int wrong = 0;
    private static int checked = 0;

    private static void fault(String text) {
        wrong++;
        System.out.println(text);
    }

    /** Called by the examples. */
    public static void due(int line, String call, int got, int want) {
        checked++;
        if (got != want) {
            fault("README.md line " + line + ": " + call + " answered " + got + ", shown is " + want);
        }
    }

    /** Called by the examples; got is null where nothing was thrown. */
    public static void dueThrown(int line, String call, RuntimeException got, String want) {
        checked++;
        String name = got == null ? "nothing" : got.getClass().getSimpleName();
        if (!name.equals(want)) {
            fault("README.md line " + line + ": " + call + " threw " + name + ", shown is " + want);
        }
    }

    public static void main(String[] args) throws IOException, ReflectiveOperationException {
        List<String> lines = Files.readAllLines(README);
        StringBuilder source = new StringBuilder("public final class Shown {\n");
        int examples = write(lines, source);
        source.append("}\n");
        run(source.toString(), examples);
        checkNames(lines);
        if (examples == 0 || checked == 0) {
            fault("README.md shows nothing of the class's use");
        }
        System.out.println(wrong == 0 ? checked + " answers in README.md are as due"
                : wrong + " things in README.md are not as due");
        if (wrong != 0) {
            System.exit(1);
        }
    }

    /** Each example becomes a method of its own: how many there are. */
    private static int write(List<String> lines, StringBuilder source) {
        int examples = 0;
        boolean inside = false;
        for (int i = 0; i < lines.size(); i++) {
            String line = lines.get(i);
            if (!inside && line.equals("```java")) {
                inside = true;
                source.append("public static void example").append(examples++).append("() {\n");
            } else if (inside && line.equals("```")) {
                inside = false;
                source.append("}\n");
            } else if (inside) {
                source.append(statement(i + 1, line)).append('\n');
            }
        }
        return examples;
    }

    private static String statement(int number, String line) {
        Matcher shown = SHOWN.matcher(line);
        if (!shown.matches()) {
            if (LIKE_AN_ANSWER.matcher(line).matches()) {
                fault("README.md line " + number + ": cannot read what is shown: " + line);
            }
            return line;
        }
        String code = shown.group(1);
        String call = "\"" + code.trim() + "\"";
        if (shown.group(3) != null) {
            return "{ RuntimeException got = null; try { " + code + " } catch (RuntimeException e) { got = e; } "
                    + "AlertRowsReadme.dueThrown(" + number + ", " + call + ", got, \"" + shown.group(3) + "\"); }";
        }
        Matcher made = MADE.matcher(code);
        if (made.matches()) {
            return code + " AlertRowsReadme.due(" + number + ", " + call + ", " + made.group(1) + ", " + shown.group(2)
                    + ");";
        }
        String value = code.substring(0, code.length() - 1);
        return "AlertRowsReadme.due(" + number + ", " + call + ", " + value + ", " + shown.group(2) + ");";
    }

    private static void run(String source, int examples) throws IOException, ReflectiveOperationException {
        Path place = Files.createTempDirectory("readme");
        try {
            Path file = Files.writeString(place.resolve("Shown.java"), source);
            JavaCompiler compiler = ToolProvider.getSystemJavaCompiler();
            int refused = compiler.run(null, null, null, "--release", "17", "-cp", System.getProperty("java.class.path"),
                    "-d", place.toString(), file.toString());
            if (refused != 0) {
                fault("README.md's examples do not compile");
                return;
            }
            try (URLClassLoader loader = new URLClassLoader(new URL[] {place.toUri().toURL()})) {
                Class<?> shown = loader.loadClass("Shown");
                for (int i = 0; i < examples; i++) {
                    runExample(shown.getMethod("example" + i));
                }
            }
        } finally {
            remove(place);
        }
    }

    private static void runExample(Method example) throws IllegalAccessException {
        try {
            example.invoke(null);
        } catch (InvocationTargetException e) {
            fault("README.md: " + example.getName() + " ends with " + e.getCause());
        }
    }

    /** Every call of the face stands in the table and in an example, and the tests that are named are those there are. */
    private static void checkNames(List<String> lines) throws IOException {
        String text = String.join("\n", lines);
        for (Method method : AlertRows.class.getDeclaredMethods()) {
            if (Modifier.isPublic(method.getModifiers())) {
                String name = method.getName();
                if (!text.contains("\n| `" + name + "(")) {
                    fault("README.md's table does not tell " + name);
                }
                if (!text.contains("rows." + name + "(")) {
                    fault("README.md's examples do not show " + name);
                }
            }
        }
        List<String> named = new ArrayList<>();
        Matcher names = Pattern.compile("(?m)^- `(src/test/java/[A-Za-z]+\\.java)`").matcher(text);
        while (names.find()) {
            named.add(names.group(1));
        }
        named.sort(Comparator.naturalOrder());
        if (!named.equals(ownTests())) {
            fault("README.md names the tests " + named + ", there are " + ownTests());
        }
    }

    private static List<String> ownTests() throws IOException {
        try (Stream<Path> files = Files.list(Path.of("src", "test", "java"))) {
            return files.map(file -> file.toString().replace('\\', '/')).filter(name -> name.endsWith(".java")).sorted()
                    .toList();
        }
    }

    private static void remove(Path place) throws IOException {
        try (Stream<Path> files = Files.walk(place)) {
            for (Path file : files.sorted(Comparator.reverseOrder()).toList()) {
                Files.delete(file);
            }
        }
    }
}
