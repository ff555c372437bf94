import java.io.IOException;
import java.lang.reflect.Method;
import java.lang.reflect.Modifier;
import java.nio.file.Files;
import java.nio.file.Path;
import java.util.ArrayList;
import java.util.List;
import java.util.TreeSet;
import java.util.regex.Matcher;
import java.util.regex.Pattern;
import java.util.stream.Stream;
import javax.tools.ToolProvider;

/** What README.md says holds: its examples' answers, its table of calls, the tests that it names. */
public final class ReadmeTest {
    private static final Path README = Path.of("README.md");
    private static final Path TESTS = Path.of("src/test/java");
    private static final Pattern BLOCK = Pattern.compile("(?s)```java\n(.*?)```");
    private static final Pattern TOLD = Pattern.compile("(?:int (\\w+) = )?(x\\.\\w+\\(.*\\)); *// (throws \\w+|true|false|-?\\d+)\\b.*");
    private static final Pattern ROW = Pattern.compile("(?m)^\\| `(\\w+\\(.*\\))` \\|[^|]*\\|(.*)\\|$");

    private final List<String> calls = new ArrayList<>();
    private final List<String> due = new ArrayList<>();
    private final StringBuilder members = new StringBuilder();
    private final StringBuilder body = new StringBuilder();

    public static void main(String[] args) throws IOException, ReflectiveOperationException {
        String text = Files.readString(README);
        ReadmeTest examples = new ReadmeTest();
        Matcher blocks = BLOCK.matcher(text);
        while (blocks.find()) {
            examples.take(blocks.group(1));
        }
        examples.compare();
        Check.due("the table of calls", rows(text).toString(), face().toString());
        Check.due("the tests named", named(text).toString(), tests().toString());
        Check.due(".ci/run can be run", Files.isExecutable(Path.of(".ci/run")), true);
        Check.finish();
    }

    private void take(String block) {
        if (block.startsWith("static ")) {
            members.append(block);
            return;
        }
        for (String line : block.split("\n")) {
            Matcher told = TOLD.matcher(line);
            if (told.matches()) {
                takeTold(told);
            } else {
                Check.due("'" + line + "' has a comment that tells no answer", line.contains("//"), false);
                body.append(line).append('\n');
            }
        }
    }

    private void takeTold(Matcher told) {
        calls.add(told.group(2));
        due.add(told.group(3));
        String value = told.group(2);
        if (told.group(1) != null) {
            body.append("int ").append(told.group(1)).append(" = ").append(value).append(";\n");
            value = told.group(1);
        }
        body.append("try { answers.add(String.valueOf(").append(value).append(")); }\n");
        body.append("catch (RuntimeException e) { answers.add(\"throws \" + e.getClass().getSimpleName()); }\n");
    }

    /** Compiles the examples to where this test lies, so that they see the same class, and runs them. */
    private void compare() throws IOException, ReflectiveOperationException {
        String classes = System.getProperty("java.class.path");
        Path source = Path.of(classes, "ReadmeExample.java");
        Files.writeString(source, "final class ReadmeExample {\n" + members
            + "static java.util.List<String> run() {\njava.util.List<String> answers = new java.util.ArrayList<>();\n"
            + body + "return answers;\n}\n}\n");
        String[] options = {"--release", "17", "-cp", classes, "-d", classes, source.toString()};
        Check.due("the examples compile", ToolProvider.getSystemJavaCompiler().run(null, null, null, options), 0);
        Method run = Class.forName("ReadmeExample").getDeclaredMethod("run");
        List<?> answers = (List<?>) run.invoke(null);
        Check.due("answers of the examples", answers.size(), due.size());
        Check.due("there are examples", due.isEmpty(), false);
        for (int i = 0; i < due.size(); i++) {
            Check.due("example " + calls.get(i), String.valueOf(answers.get(i)), due.get(i));
        }
    }

    /** Each call of the table as its name, how many arguments it takes and what refuses it. */
    private static TreeSet<String> rows(String text) {
        TreeSet<String> rows = new TreeSet<>();
        Matcher row = ROW.matcher(text);
        while (row.find()) {
            String call = row.group(1);
            String arguments = call.substring(call.indexOf('(') + 1, call.length() - 1);
            int count = arguments.isEmpty() ? 0 : arguments.split(",").length;
            StringBuilder told = new StringBuilder(call.substring(0, call.indexOf('('))).append('/').append(count);
            Matcher refused = Pattern.compile("\\b([IAS]): ").matcher(row.group(2));
            while (refused.find()) {
                told.append(' ').append(refused.group(1));
            }
            Check.due(call + " stands in the table but once", rows.add(told.toString()), true);
        }
        return rows;
    }

    private static TreeSet<String> face() {
        TreeSet<String> face = new TreeSet<>();
        for (Method method : TimeWords.class.getDeclaredMethods()) {
            if (Modifier.isPublic(method.getModifiers())) {
                StringBuilder told = new StringBuilder(method.getName()).append('/').append(method.getParameterCount());
                for (Class<?> thrown : method.getExceptionTypes()) {
                    told.append(' ').append(letter(thrown));
                }
                face.add(told.toString());
            }
        }
        return face;
    }

    private static char letter(Class<?> thrown) {
        if (thrown == IndexOutOfBoundsException.class) {
            return 'I';
        }
        return thrown == IllegalArgumentException.class ? 'A' : 'S';
    }

    private static TreeSet<String> named(String text) {
        TreeSet<String> named = new TreeSet<>();
        Matcher file = Pattern.compile("`([A-Z]\\w+)`").matcher(text);
        while (file.find()) {
            named.add(file.group(1) + ".java");
        }
        return named;
    }

    private static TreeSet<String> tests() throws IOException {
        TreeSet<String> tests = new TreeSet<>();
        try (Stream<Path> files = Files.list(TESTS)) {
            files.forEach(file -> tests.add(file.getFileName().toString()));
        }
        return tests;
    }
}
