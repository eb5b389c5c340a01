import java.io.IOException;
import java.lang.reflect.Constructor;
import java.lang.reflect.Method;
import java.lang.reflect.Modifier;
import java.net.URL;
import java.net.URLClassLoader;
import java.nio.file.Files;
import java.nio.file.Path;
import java.util.ArrayList;
import java.util.List;
import java.util.Set;
import java.util.TreeSet;
import java.util.regex.Matcher;
import java.util.regex.Pattern;
import java.util.stream.Stream;
import javax.tools.JavaCompiler;
import javax.tools.ToolProvider;

/**
 * README.md tells what is so: each example is compiled as it stands there, with a look at every
 * answer that stands behind a call, and the table of calls has each call of the class.
 */
public final class ReadmeTest {
    private static final Path README = Path.of("README.md");
    private static final String EXAMPLES = "ReadmeExamples";

    /** A call, kept in a variable or not, and what is written behind it. */
    private static final Pattern CALL = Pattern.compile(
            "\\s*(?:(int|long|boolean) (\\w+) = )?(desk\\.(\\w+)\\(.*\\));(?:\\s*// (.*))?");
    private static final Pattern ANSWER = Pattern.compile("(-?\\d+|true|false)(?:: .*)?");
    private static final Pattern ROW = Pattern.compile("\\| `((?:\\w+ )?(\\w+)\\(.*\\))` \\| (.*) \\| (.*)\\|");

    /** 512 calls are too few for this one, so no example can show it. */
    private static final String OUT_OF_REACH = "give answers 10";

    private static final Set<String> SHOWN = new TreeSet<>();
    private static int wrong = 0;

    private static void due(String what, boolean so) {
        if (!so) {
            wrong++;
            System.out.println("not as due: " + what);
        }
    }

    // ---- the examples

    private static List<List<String>> examples(List<String> lines) {
        List<List<String>> all = new ArrayList<>();
        boolean inside = false;
        for (String line : lines) {
            if (line.startsWith("```")) {
                inside = line.equals("```java");
                if (inside) {
                    all.add(new ArrayList<>());
                }
            } else if (inside) {
                all.get(all.size() - 1).add(line);
            }
        }
        return all;
    }

    /** The line with a look at the answer that it tells; a line that is no call stays as it is. */
    private static String looked(String line) {
        Matcher call = CALL.matcher(line);
        if (!call.matches() || call.group(4).equals("day")) {
            due("a call that is seen as one: " + line, call.matches() || !line.contains("desk."));
            return line;
        }
        Matcher answer = ANSWER.matcher(call.group(5) == null ? "" : call.group(5));
        if (!answer.matches()) {
            due("an answer is told: " + line, false);
            return line;
        }
        SHOWN.add(call.group(4) + " answers " + answer.group(1));
        String told = "\"" + call.group(3).replace("\"", "\\\"") + "\"";
        String want = answer.group(1).endsWith("e") ? answer.group(1) : answer.group(1) + "L";
        if (call.group(2) == null) {
            return "due(" + told + ", " + call.group(3) + ", " + want + ");";
        }
        return call.group(1) + " " + call.group(2) + " = " + call.group(3) + ";"
                + " due(" + told + ", " + call.group(2) + ", " + want + ");";
    }

    private static String programOf(List<List<String>> examples) {
        StringBuilder text = new StringBuilder("public final class " + EXAMPLES + " {\n"
                + "static int wrong = 0;\n"
                + "static void due(String call, long got, long want) {\n"
                + "if (got != want) { wrong++; System.out.println(\"README.md: \" + call + \" answered \" + got"
                + " + \", told is \" + want); } }\n"
                + "static void due(String call, boolean got, boolean want) { due(call, got ? 1 : 0, want ? 1 : 0); }\n");
        StringBuilder calls = new StringBuilder("public static int run() {\n");
        for (int i = 0; i < examples.size(); i++) {
            text.append("static void example").append(i).append("() {\n");
            for (String line : examples.get(i)) {
                text.append(looked(line)).append('\n');
            }
            text.append("}\n");
            calls.append("example").append(i).append("();\n");
        }
        return text.append(calls).append("return wrong;\n}\n}\n").toString();
    }

    private static void runExamples(List<List<String>> examples) throws Exception {
        due("README.md has examples", !examples.isEmpty());
        Path place = Files.createTempDirectory("readme");
        try {
            Path source = place.resolve(EXAMPLES + ".java");
            Files.writeString(source, programOf(examples));
            JavaCompiler javac = ToolProvider.getSystemJavaCompiler();
            String classes = System.getProperty("java.class.path");
            boolean compiled = javac != null && javac.run(null, null, null,
                    "--release", "17", "-cp", classes, "-d", place.toString(), source.toString()) == 0;
            due("the examples compile", compiled);
            if (compiled) {
                runCompiled(place);
            }
        } finally {
            remove(place);
        }
    }

    private static void runCompiled(Path place) throws Exception {
        try (URLClassLoader loader = new URLClassLoader(new URL[] {place.toUri().toURL()})) {
            wrong += (Integer) loader.loadClass(EXAMPLES).getMethod("run").invoke(null);
        }
    }

    private static void remove(Path place) throws IOException {
        try (Stream<Path> files = Files.list(place)) {
            for (Path file : files.toList()) {
                Files.delete(file);
            }
        }
        Files.delete(place);
    }

    // ---- the table of calls

    private static String typesOf(Class<?>[] types) {
        List<String> names = new ArrayList<>();
        for (Class<?> type : types) {
            names.add(type.getName());
        }
        return "(" + String.join(", ", names) + ")";
    }

    private static Set<String> face() {
        Set<String> face = new TreeSet<>();
        for (Constructor<?> made : PositionDesk.class.getConstructors()) {
            face.add("PositionDesk" + typesOf(made.getParameterTypes()));
        }
        for (Method method : PositionDesk.class.getDeclaredMethods()) {
            if (Modifier.isPublic(method.getModifiers())) {
                face.add(method.getReturnType() + " " + method.getName() + typesOf(method.getParameterTypes()));
            }
        }
        return face;
    }

    private static void table(List<String> lines) {
        Set<String> told = new TreeSet<>();
        for (String line : lines) {
            Matcher row = ROW.matcher(line);
            if (row.matches()) {
                told.add(row.group(1).replaceAll("(int|long) \\w+([,)])", "$1$2"));
                row(row.group(2), row.group(4).replaceAll("\\([^)]*\\)", ""));
            }
        }
        due("the table has just the calls of the class: " + told, told.equals(face()));
    }

    /** The faults of a row are those that the examples show of its call, and its call is shown at all. */
    private static void row(String name, String faults) {
        Set<String> listed = new TreeSet<>(List.of(faults.trim().split(", |\\s")));
        // A 9, 10 or 12 of a call without an 8 is a number of another kind, such as a floor of 10.
        boolean hasFaults = SHOWN.contains(name + " answers 8");
        for (int fault : new int[] {8, 9, 10, 12}) {
            String answer = name + " answers " + fault;
            boolean shown = hasFaults && SHOWN.contains(answer) || answer.equals(OUT_OF_REACH);
            due(answer + " is in the table just if an example shows it", listed.contains("" + fault) == shown);
        }
        boolean hasExample = false;
        for (String answer : SHOWN) {
            hasExample |= answer.startsWith(name + " ");
        }
        due(name + " has an example", hasExample || name.equals("day") || name.equals("PositionDesk"));
    }

    public static void main(String[] args) throws Exception {
        List<String> lines = Files.readAllLines(README);
        runExamples(examples(lines));
        table(lines);
        System.out.println(wrong == 0 ? "README.md is as due, with " + SHOWN.size() + " answers" : wrong + " things are not as due");
        if (wrong != 0) {
            System.exit(1);
        }
    }
}
