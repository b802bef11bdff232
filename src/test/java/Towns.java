import java.util.function.IntToLongFunction;
import java.util.function.IntUnaryOperator;

/** What the tests of boundaries share: small towns, texts, rows, ranges. */
final class Towns {
    static final int BAD = -1, NOT = -2, FULL = -3, STATE = -5, VOID = -2000000000;
    static final int MIN = Integer.MIN_VALUE, MAX = Integer.MAX_VALUE;
    static final int BYTES = 0, SHORTS = 1, INTS = 2, LONGS = 3, BOOLEANS = 4;

    private Towns() {
    }

    /** SQUARES that hold 999 and are FOR what is told of each. */
    static FullerSquare squares(int... fors) {
        FullerSquare x = new FullerSquare();
        for (int what : fors) {
            x.square(999, what);
        }
        return x;
    }

    /** Two SQUARES, FOR 0 and 1, and a WAY between them. */
    static FullerSquare pair(int minutes, int most) {
        FullerSquare x = squares(0, 1);
        x.way(1, minutes, most);
        return x;
    }

    static void feed(FullerSquare x, String text) {
        for (int i = 0; i < text.length(); i++) {
            x.feed(text.charAt(i));
        }
    }

    static int law(FullerSquare x, String text) {
        feed(x, text);
        return x.law();
    }

    static void row(FullerSquare x, int shelf, int sort, long... elements) {
        x.row(shelf, sort, elements.length);
        for (int i = 0; i < elements.length; i++) {
            x.put(shelf, i, elements[i]);
        }
    }

    static void bodies(FullerSquare x, int... kinds) {
        for (int kind : kinds) {
            x.body(kind);
        }
    }

    /** A ROW of ten bytes: all hundredths at one e. */
    static void early(FullerSquare x, int shelf, int e) {
        x.row(shelf, BYTES, 10);
        x.put(shelf, e, 100);
    }

    /** The last value that is taken and the first that is refused, on both sides; a new object for each. */
    static void range(String call, int least, int most, IntUnaryOperator answer, int ifTaken) {
        range(call, least, most, answer, v -> ifTaken);
    }

    static void range(String call, int least, int most, IntUnaryOperator answer, IntToLongFunction ifTaken) {
        int[] refused = {MIN, least - 1, most + 1, MAX};
        for (int v : refused) {
            Check.is(call + ", v = " + v, answer.applyAsInt(v), BAD);
        }
        int[] taken = {least, least + 1, most - 1, most};
        for (int v : taken) {
            Check.is(call + ", v = " + v, answer.applyAsInt(v), ifTaken.applyAsLong(v));
        }
    }

    /**
     * Where a LAW sends one who stands alone in SQUARE 3 of four, in the only MINUTE: 0 .. 2, or 3 who stays.
     * A text that becomes no LAW: what law() answered.
     */
    static int sentTo(String text) {
        FullerSquare x = squares(2, 2, 2, 2);
        for (int to = 0; to < 3; to++) {
            x.way(30 + to, 1, 99);
        }
        x.sort(10, 31, 0);
        x.set(0, 1);
        int number = law(x, text);
        if (number != 0) {
            return number;
        }
        x.run();
        return x.told(1);
    }
}
