import java.io.IOException;
import java.lang.reflect.Field;
import java.lang.reflect.Method;
import java.lang.reflect.Modifier;
import java.nio.file.Files;
import java.nio.file.Path;
import java.util.Arrays;
import java.util.Set;
import java.util.TreeSet;
import java.util.regex.Matcher;
import java.util.regex.Pattern;
import java.util.stream.Collectors;

/** What of LANGUAGE.md can be looked at by a program: the face, the words that stand in the file, its sizes. */
public final class LanguageTest {
    private static final Path FILE = Path.of("src/main/java/FullerSquare.java");
    private static final String[] FACE = {"int square(int,int)", "int way(int,int,int)", "int sort(int,int,int)",
        "int sorts(int,int,int)", "int feed(int)", "int law()", "int set(int,int)", "int mend(int,int,int)",
        "int of(int,int)", "int run()", "int led(int,int,int)", "int told(int)", "int last(int)", "int flow(int)",
        "int fewer(int)", "int often(int,int)", "int sooner(int)", "int bell(int,int)", "int paid(int)",
        "int lead(int)", "int serves(int)", "int judge(int)", "int undo()", "int redo()", "int body(int)",
        "int act(int,int,int)", "int trace(int)", "int keep(int,int)", "int row(int,int,int)",
        "int put(int,int,long)", "long element(int,int)", "int shift(int,int,int,int,int)", "int taken(int,int)",
        "int count(int)"};

    public static void main(String[] args) throws IOException {
        face();
        inside();
        words(Files.readString(FILE));
        Check.end();
    }

    private static Set<String> publicNames() {
        return Arrays.stream(FACE).map(s -> s.replaceAll(".* |\\(.*", "")).collect(Collectors.toCollection(TreeSet::new));
    }

    private static String told(Method m) {
        String types = Arrays.stream(m.getParameterTypes()).map(Class::getName).collect(Collectors.joining(","));
        return m.getReturnType().getName() + " " + m.getName() + "(" + types + ")";
    }

    private static void face() {
        Class<?> c = FullerSquare.class;
        Check.isTrue("public and final", Modifier.isPublic(c.getModifiers()) && Modifier.isFinal(c.getModifiers()));
        Check.isTrue("no package", c.getPackageName().isEmpty());
        Set<String> open = new TreeSet<>();
        for (Method m : c.getDeclaredMethods()) {
            if (!Modifier.isPrivate(m.getModifiers())) open.add(told(m));
            else Check.isTrue("private " + m.getName(), !publicNames().contains(m.getName()));
        }
        Check.isTrue("the face is " + open, open.equals(new TreeSet<>(Arrays.asList(FACE))));
        Set<String> constants = new TreeSet<>();
        for (Field f : c.getDeclaredFields()) {
            if (!Modifier.isPrivate(f.getModifiers())) constants.add(f.getName());
        }
        Check.isTrue("constants " + constants, constants.equals(Set.of("BAD", "NOT", "FULL", "STATE", "VOID")));
        Check.due("constructors", c.getDeclaredConstructors().length, 1);
    }

    private static void inside() {
        Class<?>[] inside = FullerSquare.class.getDeclaredClasses();
        Check.isTrue("at most twelve classes", inside.length + 1 <= 12);
        sizes(FullerSquare.class);
        for (Class<?> c : inside) {
            Check.isTrue(c.getName() + " is static", Modifier.isStatic(c.getModifiers()));
            Check.isTrue(c.getName() + " is not public", !Modifier.isPublic(c.getModifiers()));
            sizes(c);
            for (Method m : c.getDeclaredMethods()) {
                Check.isTrue(c.getName() + "." + m.getName(), !publicNames().contains(m.getName()));
                Check.isTrue("seven parameters", m.getParameterCount() <= 7);
            }
        }
    }

    private static void sizes(Class<?> c) {
        int fields = 0;
        for (Field f : c.getDeclaredFields()) {
            if (!Modifier.isStatic(f.getModifiers())) fields++;
            else Check.isTrue("static " + f.getName() + " is final", Modifier.isFinal(f.getModifiers()));
        }
        Check.isTrue(c.getName() + " has " + fields + " fields", fields <= 20);
    }

    private static void words(String file) {
        for (int i = 0; i < file.length(); i++) {
            Check.isTrue("sign " + i, file.charAt(i) < 128);
        }
        String code = file.replaceAll("(?s)/\\*.*?\\*/", " ").replaceAll("//[^\n]*", " ")
            .replaceAll("'.'", "' '").replaceAll("\"[^\"\n]*\"", "\"\"");
        String[] never = {"throw", "throws", "try", "catch", "synchronized", "assert", "import", "package",
            "System.exit", "Exception", "Error", "Thread", "native", "volatile", "transient", "protected",
            "hashCode", "equals", "toString", "var", "yield", "instanceof", "Random", "nanoTime"};
        for (String word : never) {
            Matcher m = Pattern.compile("\\b" + Pattern.quote(word) + "\\b").matcher(code);
            Check.isTrue("the word " + word, !m.find());
        }
        for (String sign : new String[] {"->", "::", "Exact(", "@"}) {
            Check.isTrue("the sign " + sign, !code.contains(sign));
        }
        Matcher library = Pattern.compile("\\b(System|Math|Arrays|Integer|Long|String)\\.(\\w+)").matcher(code);
        Set<String> used = new TreeSet<>();
        while (library.find()) used.add(library.group());
        Check.isTrue("the library: " + used, Set.of("System.arraycopy", "Math.max", "Math.min", "Integer.MAX_VALUE",
            "Long.MIN_VALUE").containsAll(used));
        Check.isTrue("new only in fields and in the constructor", newsStandWell(code));
    }

    /** All rows are made with the object: a line with new is a field's, or the one that makes the SHELVES. */
    private static boolean newsStandWell(String code) {
        for (String line : code.split("\n")) {
            boolean makes = Pattern.compile("\\bnew \\w+[\\[(]").matcher(line).find();
            if (makes && !line.contains("final ") && !line.contains("= new Shelf()")) return false;
        }
        return true;
    }
}
