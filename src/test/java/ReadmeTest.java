import java.io.ByteArrayOutputStream;
import java.io.IOException;
import java.io.PrintStream;
import java.lang.reflect.Method;
import java.lang.reflect.Modifier;
import java.net.URL;
import java.net.URLClassLoader;
import java.nio.charset.StandardCharsets;
import java.nio.file.Files;
import java.nio.file.Path;
import java.util.regex.Matcher;
import java.util.regex.Pattern;
import java.util.stream.Stream;
import javax.tools.JavaCompiler;
import javax.tools.ToolProvider;

/** README.md: its example runs as it is printed there, every call is in its tables, every test in its list. */
public final class ReadmeTest {
    private static final String EXAMPLE = "Noon";

    public static void main(String[] args) throws Exception {
        String page = Files.readString(Path.of("README.md"));
        Check.sentence("README: an example that runs as it is printed");
        printsTheSame(block(page, "java"), block(page, "text"));
        Check.sentence("README: what calls there are");
        tellsEachCall(page);
        Check.sentence("README: how to run its tests");
        tellsEachTest(page);
        Check.end();
    }

    /** What stands between the first fence of a kind and the fence behind it; nothing, if there is none. */
    private static String block(String page, String kind) {
        Matcher m = Pattern.compile("(?s)```" + kind + "\n(.*?)```").matcher(page);
        return m.find() ? m.group(1) : "";
    }

    private static void printsTheSame(String example, String printed) throws Exception {
        Path at = Files.createTempDirectory("readme");
        try {
            boolean made = compiles(example, at);
            check("the example compiles", made);
            check("something is printed", !printed.isEmpty());
            String got = made ? printedBy(at) : "";
            String[] gotLines = got.split("\n", -1);
            String[] dueLines = printed.split("\n", -1);
            Check.is("lines that are printed", gotLines.length, dueLines.length);
            for (int i = 0; i < Math.min(gotLines.length, dueLines.length); i++) {
                check("prints \"" + gotLines[i] + "\", told is \"" + dueLines[i] + "\"", gotLines[i].equals(dueLines[i]));
            }
        } finally {
            delete(at);
        }
    }

    private static boolean compiles(String example, Path at) throws IOException {
        JavaCompiler javac = ToolProvider.getSystemJavaCompiler();
        Path file = at.resolve(EXAMPLE + ".java");
        Files.writeString(file, example);
        String classes = System.getProperty("java.class.path");
        return javac != null
            && javac.run(null, null, null, "-encoding", "UTF-8", "-cp", classes, "-d", at.toString(), file.toString()) == 0;
    }

    private static String printedBy(Path at) throws Exception {
        PrintStream out = System.out;
        ByteArrayOutputStream got = new ByteArrayOutputStream();
        try (URLClassLoader loader = new URLClassLoader(new URL[] {at.toUri().toURL()})) {
            System.setOut(new PrintStream(got, true, StandardCharsets.UTF_8));
            loader.loadClass(EXAMPLE).getMethod("main", String[].class).invoke(null, (Object) new String[0]);
        } finally {
            System.setOut(out);
        }
        return got.toString(StandardCharsets.UTF_8).replace("\r\n", "\n");
    }

    private static void delete(Path at) throws IOException {
        try (Stream<Path> files = Files.list(at)) {
            for (Path file : files.toList()) Files.delete(file);
        }
        Files.delete(at);
    }

    /** A row of a table, with as many arguments as the call has. */
    private static void tellsEachCall(String page) {
        for (Method m : FullerSquare.class.getDeclaredMethods()) {
            if (!Modifier.isPublic(m.getModifiers())) continue;
            int n = m.getParameterCount();
            String arguments = n == 0 ? "" : "\\w+" + ", \\w+".repeat(n - 1);
            Pattern row = Pattern.compile("(?m)^\\| `" + m.getName() + "\\(" + arguments + "\\)` \\| .+ \\| .+ \\|$");
            check("it tells " + m.getName() + " with " + n, row.matcher(page).find());
        }
        String[] answers = {"-1 | `BAD`", "-2 | `NOT`", "-3 | `FULL`", "-5 | `STATE`", "-2000000000 | `VOID`", "-11 |",
            "-12 |", "-13 |", "-14 |"};
        for (String answer : answers) {
            check("it tells " + answer, page.contains("\n| " + answer));
        }
    }

    private static void tellsEachTest(String page) throws IOException {
        check("it tells .ci/run", page.contains("    .ci/run\n") && Files.isExecutable(Path.of(".ci/run")));
        try (Stream<Path> files = Files.list(Path.of("src/test/java"))) {
            for (Path file : files.toList()) {
                String name = file.getFileName().toString().replace(".java", "");
                if (name.endsWith("Test")) check("it tells " + name, page.contains("`" + name + "`"));
            }
        }
    }

    private static void check(String what, boolean holds) {
        Check.is(what, holds ? 1 : 0, 1);
    }
}
