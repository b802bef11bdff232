import java.lang.reflect.InvocationTargetException;
import java.lang.reflect.Method;
import java.lang.reflect.Modifier;
import java.util.Arrays;
import java.util.Comparator;
import java.util.Random;

/** No call throws, whatever it is called with and in whatever state: calls of all methods, drawn from told seeds. */
public final class NeverThrowsTest {
    private static final int OBJECTS = 150, CALLS = 512;
    private static final int[] WILD = {Integer.MIN_VALUE, Integer.MIN_VALUE + 1, -2000000000, -1000, -100, -61, -13, -10,
        -9, -3, -2, -1, 0, 1, 2, 3, 4, 5, 6, 7, 8, 9, 10, 11, 12, 13, 20, 21, 30, 31, 32, 49, 50, 59, 60, 61, 99, 100, 101,
        120, 199, 200, 201, 255, 256, 701, 732, 800, 999, 1000, 2000, 2001, 2010, 65536, Integer.MAX_VALUE - 1,
        Integer.MAX_VALUE};

    public static void main(String[] args) throws IllegalAccessException {
        Method[] methods = Arrays.stream(FullerSquare.class.getDeclaredMethods())
            .filter(m -> Modifier.isPublic(m.getModifiers())).sorted(Comparator.comparing(Method::getName))
            .toArray(Method[]::new);
        Check.due("methods", methods.length, 34);
        for (int seed = 0; seed < OBJECTS; seed++) {
            play(methods, new Random(seed), seed);
        }
        Check.end();
    }

    private static void play(Method[] methods, Random random, int seed) throws IllegalAccessException {
        FullerSquare x = new FullerSquare();
        int calls = seed % 3 == 0 ? 0 : build(x, random);
        int dear = 0;
        for (; calls < CALLS; calls++) {
            Method m = methods[random.nextInt(methods.length)];
            boolean isDear = m.getName().equals("paid") || m.getName().equals("lead") || m.getName().equals("often");
            if (isDear && dear++ > 8) {
                continue;
            }
            call(x, m, random, seed);
        }
    }

    private static void call(FullerSquare x, Method m, Random random, int seed) throws IllegalAccessException {
        Class<?>[] types = m.getParameterTypes();
        Object[] drawn = new Object[types.length];
        for (int i = 0; i < types.length; i++) {
            int v = random.nextInt(4) == 0 ? WILD[random.nextInt(WILD.length)] : random.nextInt(12);
            drawn[i] = types[i] == long.class ? (Object) ((long) v << random.nextInt(3) * 16) : (Object) v;
        }
        String told = "seed " + seed + ": " + m.getName() + Arrays.toString(drawn) + " threw";
        try {
            m.invoke(x, drawn);
            Check.due(told, 0, 0);
        } catch (InvocationTargetException e) {
            System.out.println(e.getCause());
            Check.due(told, 1, 0);
        }
    }

    /** A town that is full or nearly so, with the longest of THE STROKE, LAG and EARLY at times. */
    private static int build(FullerSquare x, Random random) {
        int[] firsts = {4, 4, 3, 2, 1};
        int squares = firsts[random.nextInt(firsts.length)], calls = 3;
        for (int i = 0; i < squares; i++, calls++) {
            x.square(random.nextInt(1000), random.nextInt(3));
        }
        for (int i = 0; i < 12; i++, calls++) {
            x.way(random.nextInt(34), 1 + random.nextInt(30), 1 + random.nextInt(99));
        }
        for (int i = 0; i < 8; i++, calls++) {
            x.sort(10 * random.nextInt(201) + random.nextInt(2), 10 * random.nextInt(4) + 1 + random.nextInt(3),
                random.nextInt(4));
        }
        x.set(0, random.nextBoolean() ? 60 : 1 + random.nextInt(60));
        x.set(1, random.nextBoolean() ? 9 : 0);
        x.set(2, random.nextBoolean() ? 20 : 0);
        String signs = "mkwqnfoh0123456789(!-)|&<=>+*/%?;m<q";
        String[] texts = {"f", "q+1", "m<9?f;q", "-8192*8192*32/-1%q", "(((((!k)))))?h;o", "n/0%0;f"};
        for (int i = 0; i < 6; i++, calls++) {
            StringBuilder text = new StringBuilder(texts[random.nextInt(texts.length)]);
            for (int more = random.nextInt(4); more > 1; more--) {
                text.append(signs.charAt(random.nextInt(signs.length())));
            }
            for (int at = 0; at < text.length(); at++, calls++) {
                x.feed(text.charAt(at));
            }
            x.law();
        }
        return calls;
    }
}
