import java.io.IOException;
import java.lang.reflect.Field;
import java.lang.reflect.Method;
import java.lang.reflect.Modifier;
import java.net.URL;
import java.net.URLClassLoader;
import java.nio.file.Files;
import java.nio.file.Path;
import java.util.ArrayList;
import java.util.List;
import java.util.regex.Matcher;
import java.util.regex.Pattern;
import javax.tools.ToolProvider;

/** What README.md tells is so: its example is compiled and run, its tables are held against the class. */
public final class ReadmeTest {
    /** A line of the example that tells its answer: perhaps a variable, a call, and the answer. */
    private static final Pattern TOLD =
        Pattern.compile("(?:(?:int|boolean) (\\w+) = )?(server\\..*\\));\\s+// (\\S+)");
    private static final Pattern CALL_ROW = Pattern.compile("\\| `(\\w+)\\(([^)]*)\\)` \\|.*\\|");
    private static final Pattern CONSTANT_ROW = Pattern.compile("\\| `([A-Z]+)` \\| (-\\d+) \\|.*\\|");

    private final Due due = new Due("ReadmeTest");
    private final List<String> lines;

    private ReadmeTest(List<String> lines) {
        this.lines = lines;
    }

    public static void main(String[] args) throws Exception {
        ReadmeTest test = new ReadmeTest(Files.readAllLines(Path.of("README.md")));
        test.exampleAnswersWhatItTells();
        test.everyCallHasItsRow();
        test.everyConstantHasItsRow();
        test.due.end();
    }

    private void exampleAnswersWhatItTells() throws Exception {
        StringBuilder body = new StringBuilder();
        List<String> calls = new ArrayList<>();
        List<String> told = new ArrayList<>();
        for (String line : example()) {
            Matcher matcher = TOLD.matcher(line);
            if (!matcher.matches()) {
                due.no("a call without its answer: " + line, line.contains("server."));
                body.append(line).append('\n');
                continue;
            }
            calls.add(matcher.group(2));
            told.add(valueOf(matcher.group(3)));
            body.append(matcher.group(1) == null ? "" : "var " + matcher.group(1) + " = ")
                .append("tell(answers, ").append(matcher.group(2)).append(");\n");
        }
        List<String> answers = run(body.toString());
        due.is("calls of the example", answers.size(), told.size());
        for (int i = 0; i < told.size(); i++) {
            due.is("README.md's " + calls.get(i), answers.get(i), told.get(i));
        }
        for (String step : new String[] {"client", "login", "authorize", "exchange", "check"}) {
            due.yes("the example calls " + step,
                calls.stream().anyMatch(call -> call.startsWith("server." + step + "(")));
        }
    }

    private List<String> example() {
        int first = lines.indexOf("```java") + 1;
        return lines.subList(first, first + lines.subList(first, lines.size()).indexOf("```"));
    }

    /** The example may tell a constant's name in place of its number. */
    private static String valueOf(String told) throws IllegalAccessException {
        for (Field constant : GrantServer.class.getFields()) {
            if (constant.getName().equals(told)) {
                return String.valueOf(constant.getInt(null));
            }
        }
        return told;
    }

    @SuppressWarnings("unchecked")
    private static List<String> run(String body) throws Exception {
        Path folder = Files.createTempDirectory("readme");
        Path source = folder.resolve("Example.java");
        Path compiled = folder.resolve("Example.class");
        try {
            Files.writeString(source, "public final class Example {\n"
                + "static int tell(java.util.List<String> a, int x) { a.add(\"\" + x); return x; }\n"
                + "static boolean tell(java.util.List<String> a, boolean x) { a.add(\"\" + x); return x; }\n"
                + "public static java.util.List<String> answers() {\n"
                + "java.util.List<String> answers = new java.util.ArrayList<>();\n"
                + body + "return answers;\n}\n}\n");
            compile(source, folder);
            try (URLClassLoader loader = new URLClassLoader(new URL[] {folder.toUri().toURL()})) {
                return (List<String>) loader.loadClass("Example").getMethod("answers").invoke(null);
            }
        } finally {
            Files.deleteIfExists(compiled);
            Files.deleteIfExists(source);
            Files.deleteIfExists(folder);
        }
    }

    private static void compile(Path source, Path folder) throws IOException {
        int result = ToolProvider.getSystemJavaCompiler().run(null, null, null, "-d", folder.toString(),
            "-cp", System.getProperty("java.class.path"), source.toString());
        if (result != 0) {
            throw new IOException("the example of README.md does not compile");
        }
    }

    private void everyCallHasItsRow() {
        List<String> rows = new ArrayList<>();
        for (Matcher row : rowsOf(CALL_ROW)) {
            String parameters = row.group(2);
            rows.add(row.group(1) + " " + (parameters.isEmpty() ? 0 : parameters.split(", ").length));
        }
        List<String> methods = new ArrayList<>();
        for (Method method : GrantServer.class.getDeclaredMethods()) {
            if (Modifier.isPublic(method.getModifiers())) {
                methods.add(method.getName() + " " + method.getParameterCount());
            }
        }
        sameWhateverOrder("rows of calls", rows, methods);
    }

    private void everyConstantHasItsRow() throws IllegalAccessException {
        List<String> rows = new ArrayList<>();
        for (Matcher row : rowsOf(CONSTANT_ROW)) {
            rows.add(row.group(1) + " " + row.group(2));
        }
        List<String> constants = new ArrayList<>();
        for (Field constant : GrantServer.class.getFields()) {
            constants.add(constant.getName() + " " + constant.getInt(null));
        }
        sameWhateverOrder("rows of constants", rows, constants);
    }

    private List<Matcher> rowsOf(Pattern form) {
        List<Matcher> rows = new ArrayList<>();
        for (String line : lines) {
            Matcher matcher = form.matcher(line);
            if (matcher.matches()) {
                rows.add(matcher);
            }
        }
        return rows;
    }

    private void sameWhateverOrder(String what, List<String> got, List<String> want) {
        got.sort(null);
        want.sort(null);
        due.is(what, got.toString(), want.toString());
    }
}
