import java.io.IOException;
import java.lang.reflect.Method;
import java.net.URL;
import java.net.URLClassLoader;
import java.nio.file.Files;
import java.nio.file.Path;
import java.util.ArrayList;
import java.util.List;
import java.util.TreeSet;
import java.util.regex.Matcher;
import java.util.regex.Pattern;
import java.util.stream.Stream;
import javax.tools.JavaCompiler;
import javax.tools.ToolProvider;

/** What README.md says holds of the class: its example's answers, its tables, the tests that it names. */
public final class ReadmeTest {
    private static final Check c = new Check();
    private static final String BEGIN = "LadderDesk desk = new LadderDesk();";
    private static final Pattern CALL = Pattern.compile("(desk\\.\\w+\\([^;]*\\)); *// (-?\\d+)(?:, ([A-Z]+))?(?:: .+)?");

    public static void main(String[] args) throws IOException, ReflectiveOperationException {
        String readme = Files.readString(Path.of("README.md"));
        String document = Files.readString(Path.of("../shared/DOC.md"));
        exampleAnswersAsTold(readme);
        callsAreThoseOfTheDocument(readme, document);
        constantsAreThoseOfTheClass(readme);
        callsOfAnObject(readme, document);
        testsAreNamed(readme);
        c.end();
    }

    private static void exampleAnswersAsTold(String readme) throws IOException, ReflectiveOperationException {
        Matcher block = Pattern.compile("(?s)```java\n(.*?)```").matcher(readme);
        c.dueThat("README.md has an example", block.find());
        String example = block.group(1);
        c.dueThat("README.md has one example", !block.find());

        List<String> calls = new ArrayList<>();
        List<Long> due = new ArrayList<>();
        gather(example, calls, due);
        long[] got = answersOf(example, calls);
        c.due("answers", got.length, calls.size());
        for (int i = 0; i < got.length; i++) {
            c.due(calls.get(i), got[i], due.get(i));
        }
    }

    // A line that is neither would be one whose answer nobody looks at.
    private static void gather(String example, List<String> calls, List<Long> due) throws ReflectiveOperationException {
        List<String> lines = example.lines().toList();
        c.dueThat("the example begins with " + BEGIN, lines.get(0).equals(BEGIN));
        for (String line : lines.subList(1, lines.size())) {
            Matcher m = CALL.matcher(line);
            if (m.matches()) {
                calls.add(m.group(1));
                due.add(Long.parseLong(m.group(2)));
                nameIsOf(m.group(3), Long.parseLong(m.group(2)));
            } else {
                c.dueThat("'" + line + "' tells an answer", line.isEmpty() || line.startsWith("// "));
            }
        }
        c.dueThat("the example has calls, 512 at most", calls.size() > 0 && calls.size() <= 512);
    }

    private static void nameIsOf(String name, long value) throws ReflectiveOperationException {
        if (name != null) {
            c.due(name, LadderDesk.class.getField(name).getInt(null), value);
        }
    }

    /** The example is compiled twice: as README.md has it, and with the answers of its calls in a row. */
    private static long[] answersOf(String example, List<String> calls)
            throws IOException, ReflectiveOperationException {
        String source = "public class Example {\n static void asWritten() {\n" + example + "}\n"
            + " public static long[] answers() {\n" + BEGIN + "\nreturn new long[] {"
            + String.join(",\n", calls) + "};\n}\n}\n";
        Path made = Files.createTempDirectory("readme");
        Path file = made.resolve("Example.java");
        Files.writeString(file, source);
        try (URLClassLoader loader = new URLClassLoader(new URL[] {made.toUri().toURL()})) {
            JavaCompiler javac = ToolProvider.getSystemJavaCompiler();
            int exit = javac.run(null, null, null, "-d", made.toString(),
                "-cp", System.getProperty("java.class.path"), file.toString());
            c.due("javac of the example", exit, 0);
            return exit == 0 ? (long[]) loader.loadClass("Example").getMethod("answers").invoke(null) : new long[0];
        } finally {
            Files.deleteIfExists(made.resolve("Example.class"));
            Files.delete(file);
            Files.delete(made);
        }
    }

    private static void callsAreThoseOfTheDocument(String readme, String document) {
        TreeSet<String> due = new TreeSet<>();
        Matcher face = Pattern.compile("    public (?:int|long) (\\w+)\\(([^)]*)\\);").matcher(document);
        while (face.find()) {
            due.add(face.group(1) + "(" + face.group(2).replaceAll("\\b(int|long|boolean) ", "") + ")");
        }
        List<String> told = new ArrayList<>();
        Matcher row = Pattern.compile("(?m)^\\| `(\\w+\\([^)]*\\))` \\| .+ \\|$").matcher(readme);
        while (row.find()) {
            told.add(row.group(1));
        }
        c.due("how many calls are told", told.size(), due.size());
        c.dueThat("calls " + told + " are " + due, new TreeSet<>(told).equals(due));
        for (Method m : LadderDesk.class.getMethods()) {
            boolean isOwn = m.getDeclaringClass() == LadderDesk.class;
            c.dueThat(m + " is told", !isOwn || told.stream().anyMatch(t -> t.startsWith(m.getName() + "(")));
        }
    }

    private static void constantsAreThoseOfTheClass(String readme) throws ReflectiveOperationException {
        Matcher row = Pattern.compile("(?m)^\\| `([A-Z]+)` \\| (-\\d+) \\| .+ \\|$").matcher(readme);
        TreeSet<String> told = new TreeSet<>();
        while (row.find()) {
            told.add(row.group(1));
            nameIsOf(row.group(1), Long.parseLong(row.group(2)));
        }
        c.due("how many constants are told", told.size(), LadderDesk.class.getFields().length);
    }

    private static void callsOfAnObject(String readme, String document) {
        Matcher limit = Pattern.compile("used for at most (\\d+) calls").matcher(document);
        c.dueThat("the document tells for how many calls an object is good", limit.find());
        c.dueThat("README.md, too", readme.contains("An object is good for " + limit.group(1) + " calls"));
    }

    private static void testsAreNamed(String readme) throws IOException {
        try (Stream<Path> files = Files.list(Path.of("src/test/java"))) {
            for (Path file : files.toList()) {
                String name = file.getFileName().toString().replace(".java", "");
                c.dueThat("README.md names " + name, !name.endsWith("Test") || readme.contains("`" + name + "`"));
            }
        }
    }
}
