import com.sun.management.ThreadMXBean;
import java.io.IOException;
import java.lang.management.ManagementFactory;
import java.lang.reflect.Field;
import java.lang.reflect.Method;
import java.lang.reflect.Modifier;
import java.nio.file.Files;
import java.nio.file.Path;
import java.util.Arrays;
import java.util.Set;
import java.util.TreeSet;
import java.util.regex.Matcher;
import java.util.regex.Pattern;
import java.util.stream.Collectors;

/** What of LANGUAGE.md can be looked at by a program: the face, the words that stand in the file, its sizes. */
public final class LanguageTest {
    private static final Path FILE = Path.of("src/main/java/FullerSquare.java");
    private static final String[] FACE = {"int square(int,int)", "int way(int,int,int)", "int sort(int,int,int)",
        "int sorts(int,int,int)", "int feed(int)", "int law()", "int set(int,int)", "int mend(int,int,int)",
        "int of(int,int)", "int run()", "int led(int,int,int)", "int told(int)", "int last(int)", "int flow(int)",
        "int fewer(int)", "int often(int,int)", "int sooner(int)", "int bell(int,int)", "int paid(int)",
        "int lead(int)", "int serves(int)", "int judge(int)", "int undo()", "int redo()", "int body(int)",
        "int act(int,int,int)", "int trace(int)", "int keep(int,int)", "int row(int,int,int)",
        "int put(int,int,long)", "long element(int,int)", "int shift(int,int,int,int,int)", "int taken(int,int)",
        "int count(int)"};

    public static void main(String[] args) throws IOException {
        face();
        inside();
        words(Files.readString(FILE));
        room();
        Check.end();
    }

    private static Set<String> publicNames() {
        return Arrays.stream(FACE).map(s -> s.replaceAll(".* |\\(.*", "")).collect(Collectors.toCollection(TreeSet::new));
    }

    private static String told(Method m) {
        String types = Arrays.stream(m.getParameterTypes()).map(Class::getName).collect(Collectors.joining(","));
        return m.getReturnType().getName() + " " + m.getName() + "(" + types + ")";
    }

    private static void face() {
        Class<?> c = FullerSquare.class;
        Check.isTrue("public and final", Modifier.isPublic(c.getModifiers()) && Modifier.isFinal(c.getModifiers()));
        Check.isTrue("no package", c.getPackageName().isEmpty());
        Set<String> open = new TreeSet<>();
        for (Method m : c.getDeclaredMethods()) {
            if (!Modifier.isPrivate(m.getModifiers())) open.add(told(m));
            else Check.isTrue("private " + m.getName(), !publicNames().contains(m.getName()));
        }
        Check.isTrue("the face is " + open, open.equals(new TreeSet<>(Arrays.asList(FACE))));
        Set<String> constants = new TreeSet<>();
        for (Field f : c.getDeclaredFields()) {
            if (!Modifier.isPrivate(f.getModifiers())) constants.add(f.getName());
        }
        Check.isTrue("constants " + constants, constants.equals(Set.of("BAD", "NOT", "FULL", "STATE", "VOID")));
        Check.due("constructors", c.getDeclaredConstructors().length, 1);
    }

    private static void inside() {
        Class<?>[] inside = FullerSquare.class.getDeclaredClasses();
        Check.isTrue("at most twelve classes", inside.length + 1 <= 12);
        sizes(FullerSquare.class);
        for (Class<?> c : inside) {
            Check.isTrue(c.getName() + " is static", Modifier.isStatic(c.getModifiers()));
            Check.isTrue(c.getName() + " is not public", !Modifier.isPublic(c.getModifiers()));
            sizes(c);
            for (Method m : c.getDeclaredMethods()) {
                Check.isTrue(c.getName() + "." + m.getName(), !publicNames().contains(m.getName()));
                Check.isTrue("seven parameters", m.getParameterCount() <= 7);
            }
        }
    }

    private static void sizes(Class<?> c) {
        int fields = 0;
        for (Field f : c.getDeclaredFields()) {
            if (!Modifier.isStatic(f.getModifiers())) fields++;
            else Check.isTrue("static " + f.getName() + " is final", Modifier.isFinal(f.getModifiers()));
        }
        Check.isTrue(c.getName() + " has " + fields + " fields", fields <= 20);
    }

    private static void words(String file) {
        for (int i = 0; i < file.length(); i++) {
            Check.isTrue("sign " + i, file.charAt(i) < 128);
        }
        String code = file.replaceAll("(?s)/\\*.*?\\*/", " ").replaceAll("//[^\n]*", " ")
            .replaceAll("'.'", "' '").replaceAll("\"[^\"\n]*\"", "\"\"");
        String[] never = {"throw", "throws", "try", "catch", "synchronized", "assert", "package", "System.exit", "Thread",
            "native", "volatile", "transient", "protected", "hashCode", "yield", "Random", "Math.random", "nanoTime",
            "currentTimeMillis"};
        for (String word : never) {
            Matcher m = Pattern.compile("\\b" + Pattern.quote(word) + "\\b").matcher(code);
            Check.isTrue("the word " + word, !m.find());
        }
        for (String sign : new String[] {"->", "::", "Exact(", "@"}) {
            Check.isTrue("the sign " + sign, !code.contains(sign));
        }
        library(code);
        lengths(file);
    }

    private static void library(String code) {
        Set<String> functions = Set.of("compare", "max", "min", "abs", "signum", "bitCount", "floorDiv", "floorMod",
            "highestOneBit", "lowestOneBit", "numberOfLeadingZeros", "numberOfTrailingZeros", "rotateLeft", "rotateRight",
            "compareUnsigned", "divideUnsigned", "remainderUnsigned");
        Matcher number = Pattern.compile("\\b(Math|Integer|Long)\\.(\\w+)").matcher(code);
        while (number.find()) {
            // Long.MIN_VALUE is no function, but the document itself names it (promise 32).
            boolean listed = functions.contains(number.group(2)) || number.group().equals("Long.MIN_VALUE");
            Check.isTrue("the library: " + number.group(), listed);
        }
        Set<String> others = Set.of("System.arraycopy", "Arrays.copyOf", "Arrays.copyOfRange", "Arrays.fill", "List.of");
        Matcher other = Pattern.compile("\\b(System|Arrays|List|String|Character|Objects)\\.(\\w+)").matcher(code);
        while (other.find()) Check.isTrue("the library: " + other.group(), others.contains(other.group()));
        Matcher imported = Pattern.compile("\\bimport\\s+([\\w.]+)").matcher(code);
        Set<String> lists = Set.of("java.util.ArrayList", "java.util.List", "java.util.Arrays", "java.util.Iterator");
        while (imported.find()) Check.isTrue("import of " + imported.group(1), lists.contains(imported.group(1)));
    }

    /** A method is what stands between two lines that open and close it at the depth of a class's member. */
    private static void lengths(String file) {
        String indent = "";
        int opened = -1, at = 0;
        for (String line : file.split("\n")) {
            at++;
            Matcher head = Pattern.compile("^( {4}| {8})[\\w\\[\\]]+.*\\) \\{$").matcher(line);
            if (opened < 0 && head.find() && !line.contains(" class ")) {
                indent = head.group(1);
                opened = at;
            } else if (opened >= 0 && line.equals(indent + "}")) {
                Check.isTrue("the method from line " + opened + " has at most 60 lines", at - opened < 60);
                opened = -1;
            }
        }
        Check.isTrue("every method is closed", opened < 0);
    }

    /** All calls of one run live in one room: what 512 of the dearest ones make stays far below it. */
    private static void room() {
        if (!(ManagementFactory.getThreadMXBean() instanceof ThreadMXBean threads)) return;
        if (!threads.isThreadAllocatedMemorySupported() || !threads.isThreadAllocatedMemoryEnabled()) return;
        long id = Thread.currentThread().getId();
        long before = threads.getThreadAllocatedBytes(id);
        FullerSquare x = new FullerSquare();
        for (int i = 0; i < 4; i++) x.square(999, i % 3);
        for (int i = 0; i < 12; i++) x.way(i % 2 == 0 ? 1 : 23, 1 + i, 9);
        for (int k = 0; k < 8; k++) x.sort(2000 + k % 2, 10 * (k % 4) + 1, k % 4);
        x.set(0, 60);
        for (char c : "q".toCharArray()) x.feed(c);
        x.law();
        for (int i = 0; i < 220; i++) {
            x.paid(i % 4);
            x.lead(i % 4);
        }
        long made = threads.getThreadAllocatedBytes(id) - before;
        Check.isTrue("a run makes " + made + " bytes", made < 20_000_000);
    }
}
