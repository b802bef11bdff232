/** The boundaries of BODIES, ACTS and SHELVES: Terms 4, promises 26 to 35. A method for each sentence. */
public final class BoundariesOfShelvesTest {
    private static final int BAD = Towns.BAD, FULL = Towns.FULL, MIN = Towns.MIN, MAX = Towns.MAX;
    private static final long NO_ELEMENT = Long.MIN_VALUE;
    private static final int[] ALL_KINDS = {0, 1, 2, 3, 4, 5, 6, 7};

    public static void main(String[] args) {
        bodyKinds();
        fiftyBodies();
        actOfNoBody();
        actOfNoAct();
        actsWrap();
        actsByNumber();
        traceBad();
        traceOfNoAct();
        traceOfTheLatest();
        longestTrace();
        keepShelves();
        keepBodies();
        keepNothing();
        keepInsteadOfARow();
        rowShelves();
        rowSorts();
        rowSizes();
        rowSizeBelowZero();
        rowOfZeros();
        lowestBitsOfBytes();
        lowestBitsOfShorts();
        lowestBitsOfInts();
        lowestBitsOfLongs();
        booleans();
        putShelves();
        putNothingThere();
        putPlaces();
        putOfEmptyRow();
        elementRefused();
        elementThatLooksRefused();
        shiftShelves();
        shiftNothingThere();
        shiftKinds();
        shiftPlaces();
        shiftNone();
        shiftAllOfSixty();
        shiftAsTheyWere();
        shiftOfEachSort();
        takenShelvesAndKinds();
        takenNothingThere();
        takenRows();
        takenKinds();
        countWhat();
        countOfEach();
        Check.end();
    }

    private static FullerSquare eight() {
        FullerSquare x = new FullerSquare();
        Towns.bodies(x, ALL_KINDS);
        return x;
    }

    // ---- promises 26 to 28

    private static void bodyKinds() {
        Check.sentence("26: a KIND (0 .. 7); BAD");
        Towns.range("body(v)", 0, 7, v -> new FullerSquare().body(v), 0);
        FullerSquare x = new FullerSquare();
        x.body(8);
        x.body(-1);
        Check.is("count(6)", x.count(6), 0);
    }

    private static void fiftyBodies() {
        Check.sentence("26: BODIES 0 .. 49; FULL");
        FullerSquare x = new FullerSquare();
        for (int i = 0; i < 50; i++) {
            Check.is("count(6)", x.count(6), i);
            Check.is("body(" + i % 8 + ")", x.body(i % 8), i);
        }
        Check.is("the 51st", x.body(0), FULL);
        Check.is("a BAD one when full", x.body(8), BAD);
        Check.is("count(6)", x.count(6), 50);
        Check.is("act of the last", x.act(49, 0, 0), 52);
        Check.is("no such BODY", x.act(50, 0, 1), 0);
        Check.is("keep(0, 49)", x.keep(0, 49), 1);
        Check.is("taken(0, 1)", x.taken(0, 1), 1);
        Check.is("keep(0, 50)", x.keep(0, 50), BAD);
    }

    private static void actOfNoBody() {
        Check.sentence("27: 0, and no TRACE then: no such BODY");
        int[] none = {MIN, -2, -1, 8, 9, 50, MAX};
        for (int body : none) {
            FullerSquare x = eight();
            x.act(7, 3, 5);
            Check.is("act(" + body + ", 0, 5)", x.act(body, 0, 5), 0);
            Check.is("count(7)", x.count(7), 0);
            Check.is("trace(0)", x.trace(0), BAD);
        }
        Check.is("without BODIES: act(0, 0, 5)", new FullerSquare().act(0, 0, 5), 0);
        FullerSquare x = eight();
        Check.is("the first BODY", x.act(0, 0, 5), 5);
        Check.is("the last BODY", x.act(7, 0, 5), 23);
    }

    private static void actOfNoAct() {
        Check.sentence("27: an ACT (0 .. 3); 0, and no TRACE then: no such ACT");
        int[] none = {MIN, -1, 4, 5, MAX};
        for (int act : none) {
            FullerSquare x = eight();
            x.act(7, 3, 5);
            Check.is("act(7, " + act + ", 5)", x.act(7, act, 5), 0);
            Check.is("count(7)", x.count(7), 0);
            Check.is("trace(0)", x.trace(0), BAD);
        }
        int[] due = {6, 12, 4, 12};
        for (int act = 0; act <= 3; act++) {
            FullerSquare x = new FullerSquare();
            Towns.bodies(x, 0, 0);
            Check.is("act(1, " + act + ", 5)", x.act(1, act, 5), due[act]);
        }
    }

    private static void actsWrap() {
        Check.sentence("27: x is an int that wraps");
        FullerSquare x = eight();
        Check.is("x + n: act(1, 0, MAX)", x.act(1, 0, MAX), MIN + 3);
        Check.is("x + n: act(0, 0, MIN)", x.act(0, 0, MIN), MIN);
        Check.is("* 2: act(0, 1, MIN)", x.act(0, 1, MIN), 0);
        Check.is("* 2: act(0, 1, MAX)", x.act(0, 1, MAX), -2);
        Check.is("^ n: act(7, 2, MIN)", x.act(7, 2, MIN), MIN + 7);
        Check.is("^ n: act(7, 2, -1)", x.act(7, 2, -1), -8);
        Check.is("-super: act(2, 1, MAX / 2)", x.act(2, 1, MAX / 2), MAX - 1);
        Check.is("-super of the least: act(2, 1, 2 to the 30th less 2)", x.act(2, 1, (1 << 30) - 2), MIN);
        Check.is("* 3: act(3, 2, MAX)", x.act(3, 2, MAX), (MAX - 3) * 3);
        Check.is("x + 1: act(3, 1, MAX)", x.act(3, 1, MAX), -((MIN + 3) * 2));
        Check.is("* 2: act(6, 0, MAX)", x.act(6, 0, MAX), (MIN + 5) * 2);
        Check.is("- 1: act(7, 0, 2 to the 30th less 7)", x.act(7, 0, (1 << 30) - 7), MAX);
        Check.is("sees - waits: act(0, 3, MIN)", x.act(0, 3, MIN), -1);
        Check.is("- goes: act(5, 2, MIN)", x.act(5, 2, MIN), (MIN ^ 5) - 10);
    }

    private static void actsByNumber() {
        Check.sentence("27: n its number (0 .. 49)");
        for (int kind = 0; kind < 8; kind++) {
            FullerSquare x = new FullerSquare();
            for (int i = 0; i < 50; i++) {
                x.body(kind);
            }
            int more = kind == 1 || kind == 4 || kind == 5 ? 3 : 0;
            int times = kind >= 6 ? 2 : 1;
            int less = kind == 7 ? 1 : 0;
            for (int n = 0; n < 50; n++) {
                Check.is("KIND " + kind + ": act(" + n + ", 0, 100)", x.act(n, 0, 100), (100 + n) * times + more - less);
                int waits = kind == 3 ? (5 ^ n) * 3 : kind == 5 ? (5 ^ n) - (2 + n + 3) : 5 ^ n;
                Check.is("KIND " + kind + ": act(" + n + ", 2, 5)", x.act(n, 2, 5), waits);
                seesAndTells(x, kind, n);
            }
        }
    }

    private static void seesAndTells(FullerSquare x, int kind, int n) {
        int goes = x.act(n, 0, kind == 3 ? 101 : 100);
        int sees = kind == 2 || kind == 3 ? -2 * goes : kind == 7 ? 2 * goes + (2 ^ n) : 2 * goes;
        Check.is("KIND " + kind + ": act(" + n + ", 1, 100)", x.act(n, 1, 100), sees);
        int tells = sees - x.act(n, 2, 1);
        tells = kind == 4 ? tells ^ 5 : kind == 5 ? (tells ^ 5) + 1 : tells;
        Check.is("KIND " + kind + ": act(" + n + ", 3, 100)", x.act(n, 3, 100), tells);
    }

    private static void traceBad() {
        Check.sentence("28: THE TRACE's i-th body; BAD");
        FullerSquare x = eight();
        Check.is("none yet: trace(0)", x.trace(0), BAD);
        x.act(0, 0, 1);
        Check.is("trace(-1)", x.trace(-1), BAD);
        Check.is("trace(0)", x.trace(0), 1);
        Check.is("trace(1)", x.trace(1), BAD);
        int[] none = {MIN, -2, 2, 23, 24, 25, MAX};
        for (int i : none) {
            Check.is("trace(" + i + ")", x.trace(i), BAD);
        }
    }

    private static void traceOfNoAct() {
        Check.sentence("28: no TRACE then");
        FullerSquare x = eight();
        x.act(5, 3, 1);
        x.act(5, 4, 1);
        for (int i = 0; i < 24; i++) {
            Check.is("trace(" + i + ")", x.trace(i), BAD);
        }
        x.act(0, 2, 1);
        Check.is("trace(0)", x.trace(0), 11);
        Check.is("trace(1)", x.trace(1), BAD);
    }

    private static void traceOfTheLatest() {
        Check.sentence("28: in the latest act(), as they began");
        FullerSquare x = eight();
        x.act(5, 3, 1);
        x.act(7, 1, 1);
        traceIs(x, 80, 10, 81, 70, 1, 11);
        x.act(5, 2, 1);
        traceIs(x, 60, 11, 20, 1);
        x.body(0);
        x.keep(0, 0);
        x.count(7);
        traceIs(x, 60, 11, 20, 1);
        x.act(3, 1, 1);
        traceIs(x, 41, 30, 10, 1);
        x.act(3, 2, 1);
        traceIs(x, 40, 11);
        x.act(6, 0, 1);
        traceIs(x, 70, 1);
    }

    private static void longestTrace() {
        Check.sentence("28: the first 24 are kept; 7: all, kept or not");
        FullerSquare x = eight();
        x.act(5, 3, 1);
        traceIs(x, 61, 50, 2, 10, 20, 1, 60, 11, 20, 1);
        x.act(7, 3, 1);
        traceIs(x, 2, 80, 10, 81, 70, 1, 11, 11);
        x.act(4, 3, 1);
        traceIs(x, 50, 2, 10, 20, 1, 11);
    }

    private static void traceIs(FullerSquare x, int... bodies) {
        Check.is("count(7)", x.count(7), bodies.length);
        for (int i = 0; i < bodies.length; i++) {
            Check.is("trace(" + i + ")", x.trace(i), bodies[i]);
        }
        Check.is("trace(" + bodies.length + ")", x.trace(bodies.length), BAD);
    }

    // ---- promise 29

    private static void keepShelves() {
        Check.sentence("29: SHELVES 0 .. 5; BAD");
        Towns.range("keep(v, 0)", 0, 5, v -> eight().keep(v, 0), 1);
        Towns.range("keep(v, -1)", 0, 5, v -> new FullerSquare().keep(v, -1), 1);
        FullerSquare x = eight();
        for (int shelf = 0; shelf < 6; shelf++) {
            x.keep(shelf, shelf + 1);
        }
        for (int shelf = 0; shelf < 6; shelf++) {
            Check.is("each by itself: taken(" + shelf + ", 0)", x.taken(shelf, 0), shelf + 1);
        }
    }

    private static void keepBodies() {
        Check.sentence("29: nothing (body -1), or a BODY; BAD");
        int[] none = {MIN, -3, -2, 3, 4, 49, 50, MAX};
        FullerSquare x = new FullerSquare();
        Check.is("keep(0, 0) without BODIES", x.keep(0, 0), BAD);
        Towns.bodies(x, 1, 2, 3);
        x.keep(0, 1);
        for (int body : none) {
            Check.is("keep(0, " + body + ")", x.keep(0, body), BAD);
            Check.is("it stays: taken(0, 0)", x.taken(0, 0), 2);
        }
        for (int body = 0; body < 3; body++) {
            Check.is("keep(0, " + body + ")", x.keep(0, body), 1);
            Check.is("taken(0, 0)", x.taken(0, 0), body + 1);
        }
    }

    private static void keepNothing() {
        Check.sentence("29: a SHELF holds nothing (body -1)");
        FullerSquare x = eight();
        x.keep(0, 7);
        Check.is("keep(0, -1)", x.keep(0, -1), 1);
        Check.is("taken(0, 0)", x.taken(0, 0), -11);
        Check.is("once more", x.keep(0, -1), 1);
        x.row(1, 0, 3);
        x.keep(1, -1);
        Check.is("put(1, 0, 1)", x.put(1, 0, 1), -11);
        Check.is("element(1, 0)", x.element(1, 0), NO_ELEMENT);
    }

    private static void keepInsteadOfARow() {
        Check.sentence("29, 30: a SHELF holds a BODY, or a ROW");
        FullerSquare x = eight();
        x.row(0, 0, 3);
        x.keep(0, 4);
        Check.is("put(0, 0, 1)", x.put(0, 0, 1), -12);
        Check.is("taken(0, 1)", x.taken(0, 1), 4);
        x.row(0, 0, 0);
        Check.is("taken(0, 1)", x.taken(0, 1), -12);
        Check.is("put(0, 0, 1)", x.put(0, 0, 1), -13);
    }

    // ---- promise 30

    private static void rowShelves() {
        Check.sentence("30: SHELVES 0 .. 5; BAD");
        Towns.range("row(v, 0, 1)", 0, 5, v -> new FullerSquare().row(v, 0, 1), 1);
        FullerSquare x = new FullerSquare();
        for (int shelf = 0; shelf < 6; shelf++) {
            x.row(shelf, Towns.LONGS, 60);
            x.put(shelf, 0, shelf + 10);
            x.put(shelf, 59, shelf + 20);
        }
        for (int shelf = 0; shelf < 6; shelf++) {
            Check.is("each by itself: element(" + shelf + ", 0)", x.element(shelf, 0), shelf + 10);
            Check.is("each by itself: element(" + shelf + ", 59)", x.element(shelf, 59), shelf + 20);
        }
    }

    private static void rowSorts() {
        Check.sentence("30: a sort (0 .. 4); BAD");
        Towns.range("row(0, v, 1)", 0, 4, v -> new FullerSquare().row(0, v, 1), 1);
    }

    private static void rowSizes() {
        Check.sentence("30: of 0 .. 60 elements; BAD (n above 60)");
        for (int sort = 0; sort < 5; sort++) {
            for (int n = 0; n <= 65; n++) {
                FullerSquare x = new FullerSquare();
                Check.is("row(0, " + sort + ", " + n + ")", x.row(0, sort, n), n <= 60 ? 1 : BAD);
                Check.is("put in the last", x.put(0, n - 1, 1), n == 0 ? -13 : n <= 60 ? 1 : -11);
                Check.is("put behind it", x.put(0, n, 1), n <= 60 ? -13 : -11);
            }
            Check.is("row(0, " + sort + ", MAX)", new FullerSquare().row(0, sort, MAX), BAD);
        }
    }

    private static void rowSizeBelowZero() {
        Check.sentence("30: -14 a size below 0");
        int[] sizes = {MIN, -60, -2, -1};
        for (int n : sizes) {
            FullerSquare x = new FullerSquare();
            Check.is("row(0, 0, " + n + ")", x.row(0, 0, n), -14);
            Check.is("nothing is there", x.put(0, 0, 1), -11);
            x.row(0, 1, 2);
            x.put(0, 1, 7);
            Check.is("row(0, 4, " + n + ")", x.row(0, 4, n), -14);
            Check.is("what is there stays", x.element(0, 1), 7);
        }
    }

    private static void rowOfZeros() {
        Check.sentence("30: 0 at first (false)");
        FullerSquare x = new FullerSquare();
        x.row(0, Towns.LONGS, 60);
        for (int i = 0; i < 60; i++) {
            x.put(0, i, -1);
        }
        for (int sort = 0; sort < 5; sort++) {
            x.row(0, sort, 60);
            for (int i = 0; i < 60; i++) {
                Check.is("sort " + sort + ": element(0, " + i + ")", x.element(0, i), 0);
            }
            x.put(0, 59, -1);
        }
    }

    // ---- promises 31 and 32

    private static void keeps(int sort, long v, long due) {
        FullerSquare x = new FullerSquare();
        x.row(0, sort, 3);
        Check.is("put(0, 1, " + v + ")", x.put(0, 1, v), 1);
        Check.is("element of " + v, x.element(0, 1), due);
        Check.is("the one ahead", x.element(0, 0), 0);
        Check.is("the one behind", x.element(0, 2), 0);
    }

    private static void lowestBitsOfBytes() {
        Check.sentence("31: what is put in keeps its lowest bits: bytes");
        for (int v = -400; v <= 400; v++) {
            int lowest = v & 255;
            keeps(Towns.BYTES, v, lowest < 128 ? lowest : lowest - 256);
        }
        keeps(Towns.BYTES, Long.MAX_VALUE, -1);
        keeps(Towns.BYTES, Long.MIN_VALUE, 0);
        keeps(Towns.BYTES, 1L << 32, 0);
        keeps(Towns.BYTES, (1L << 32) + 100, 100);
    }

    private static void lowestBitsOfShorts() {
        Check.sentence("31: what is put in keeps its lowest bits: shorts");
        long[] puts = {32766, 32767, 32768, 32769, 65535, 65536, 65537, -32767, -32768, -32769, -65536, -1, 0, 1,
            Long.MAX_VALUE, Long.MIN_VALUE, (1L << 32) + 7};
        long[] due = {32766, 32767, -32768, -32767, -1, 0, 1, -32767, -32768, 32767, 0, -1, 0, 1, -1, 0, 7};
        for (int i = 0; i < puts.length; i++) {
            keeps(Towns.SHORTS, puts[i], due[i]);
        }
    }

    private static void lowestBitsOfInts() {
        Check.sentence("31: what is put in keeps its lowest bits: ints");
        long[] puts = {MAX, MAX + 1L, MIN, MIN - 1L, 1L << 32, (1L << 32) - 1, (1L << 32) + 1, Long.MAX_VALUE,
            Long.MIN_VALUE, -1, 0, 1};
        long[] due = {MAX, MIN, MIN, MAX, 0, -1, 1, -1, 0, -1, 0, 1};
        for (int i = 0; i < puts.length; i++) {
            keeps(Towns.INTS, puts[i], due[i]);
        }
    }

    private static void lowestBitsOfLongs() {
        Check.sentence("31: what is put in keeps its lowest bits: longs");
        long[] puts = {Long.MAX_VALUE, Long.MIN_VALUE, Long.MIN_VALUE + 1, 1L << 32, MAX + 1L, MIN - 1L, -1, 0, 1};
        for (long v : puts) {
            keeps(Towns.LONGS, v, v);
        }
    }

    private static void booleans() {
        Check.sentence("31: a boolean: whether it is not 0; 1 or 0");
        long[] puts = {1, 2, -1, 255, 256, 65536, 1L << 31, 1L << 32, 1L << 62, Long.MIN_VALUE, Long.MAX_VALUE};
        for (long v : puts) {
            keeps(Towns.BOOLEANS, v, 1);
        }
        keeps(Towns.BOOLEANS, 0, 0);
        FullerSquare x = new FullerSquare();
        x.row(0, Towns.BOOLEANS, 1);
        x.put(0, 0, 5);
        x.put(0, 0, 0);
        Check.is("0 again", x.element(0, 0), 0);
    }

    private static void putShelves() {
        Check.sentence("31: SHELVES 0 .. 5; BAD");
        Towns.range("put(v, 0, 1)", 0, 5, v -> {
            FullerSquare x = new FullerSquare();
            for (int shelf = 0; shelf < 6; shelf++) {
                x.row(shelf, 0, 1);
            }
            return x.put(v, 0, 1);
        }, 1);
    }

    private static void putNothingThere() {
        Check.sentence("31: -11; -12 (a BODY)");
        FullerSquare x = eight();
        for (int shelf = 0; shelf < 6; shelf++) {
            Check.is("put(" + shelf + ", 0, 1)", x.put(shelf, 0, 1), -11);
            x.keep(shelf, shelf);
            Check.is("put(" + shelf + ", 0, 1) on a BODY", x.put(shelf, 0, 1), -12);
        }
    }

    private static void putPlaces() {
        Check.sentence("31: -13 a place that is not there");
        for (int n = 1; n <= 60; n += n == 1 ? 1 : 58) {
            FullerSquare x = new FullerSquare();
            x.row(0, Towns.INTS, n);
            int[] none = {MIN, -2, -1, n, n + 1, 60, 61, MAX};
            for (int i : none) {
                Check.is(n + " elements: put(0, " + i + ", 5)", x.put(0, i, 5), -13);
            }
            for (int i = 0; i < n; i++) {
                Check.is(n + " elements: element(0, " + i + ")", x.element(0, i), 0);
                Check.is(n + " elements: put(0, " + i + ", 5)", x.put(0, i, 5), 1);
                Check.is(n + " elements: element(0, " + i + ")", x.element(0, i), 5);
            }
        }
    }

    private static void putOfEmptyRow() {
        Check.sentence("31: a ROW of 0 elements");
        FullerSquare x = new FullerSquare();
        for (int sort = 0; sort < 5; sort++) {
            x.row(0, sort, 0);
            Check.is("put(0, 0, 1)", x.put(0, 0, 1), -13);
            Check.is("put(0, -1, 1)", x.put(0, -1, 1), -13);
            Check.is("element(0, 0)", x.element(0, 0), NO_ELEMENT);
            Check.is("shift(0, 0, 0, 0, 0)", x.shift(0, 0, 0, 0, 0), 0);
            Check.is("shift(0, 0, 0, 0, 1)", x.shift(0, 0, 0, 0, 1), -13);
        }
    }

    private static void elementRefused() {
        Check.sentence("32: Long.MIN_VALUE: BAD, -11 to -13");
        FullerSquare x = eight();
        x.row(0, Towns.INTS, 2);
        x.put(0, 0, 8);
        x.put(0, 1, 9);
        x.keep(1, 0);
        int[] shelves = {MIN, -1, 6, 7, MAX};
        for (int shelf : shelves) {
            Check.is("element(" + shelf + ", 0)", x.element(shelf, 0), NO_ELEMENT);
        }
        Check.is("of a BODY: element(1, 0)", x.element(1, 0), NO_ELEMENT);
        Check.is("of nothing: element(2, 0)", x.element(2, 0), NO_ELEMENT);
        int[] places = {MIN, -1, 2, 3, 60, MAX};
        for (int i : places) {
            Check.is("element(0, " + i + ")", x.element(0, i), NO_ELEMENT);
        }
        Check.is("element(0, 0)", x.element(0, 0), 8);
        Check.is("element(0, 1)", x.element(0, 1), 9);
    }

    private static void elementThatLooksRefused() {
        Check.sentence("32: element i of a ROW, whatever it is");
        FullerSquare x = new FullerSquare();
        Towns.row(x, 0, Towns.LONGS, Long.MIN_VALUE, Long.MIN_VALUE + 1, -1, -13);
        long[] due = {Long.MIN_VALUE, Long.MIN_VALUE + 1, -1, -13};
        for (int i = 0; i < 4; i++) {
            Check.is("element(0, " + i + ")", x.element(0, i), due[i]);
        }
    }

    // ---- promise 33

    private static void shiftShelves() {
        Check.sentence("33: SHELVES 0 .. 5; BAD");
        Towns.range("shift(v, 0, 0, 0, 1)", 0, 5, v -> sixRows().shift(v, 0, 0, 0, 1), 1);
        Towns.range("shift(0, 0, v, 0, 1)", 0, 5, v -> sixRows().shift(0, 0, v, 0, 1), 1);
    }

    private static FullerSquare sixRows() {
        FullerSquare x = new FullerSquare();
        for (int shelf = 0; shelf < 6; shelf++) {
            x.row(shelf, 0, 1);
        }
        return x;
    }

    private static void shiftNothingThere() {
        Check.sentence("33: -11 (either)");
        FullerSquare x = eight();
        x.row(0, 0, 5);
        x.keep(1, 0);
        Check.is("to nothing", x.shift(0, 0, 2, 0, 1), -11);
        Check.is("from nothing", x.shift(2, 0, 0, 0, 1), -11);
        Check.is("both", x.shift(2, 0, 3, 0, 1), -11);
        Check.is("the same", x.shift(2, 0, 2, 0, 0), -11);
        Check.is("from a BODY to nothing", x.shift(1, 0, 2, 0, 1), -11);
        Check.is("from nothing to a BODY", x.shift(2, 0, 1, 0, 1), -11);
        Check.is("none of them to nothing", x.shift(0, 0, 2, 0, 0), -11);
    }

    private static void shiftKinds() {
        Check.sentence("33: -12 (no ROWS, or of unlike sorts)");
        FullerSquare x = eight();
        x.keep(0, 0);
        x.row(1, 0, 5);
        Check.is("from a BODY", x.shift(0, 0, 1, 0, 1), -12);
        Check.is("to a BODY", x.shift(1, 0, 0, 0, 1), -12);
        Check.is("from a BODY to itself", x.shift(0, 0, 0, 0, 0), -12);
        for (int from = 0; from < 5; from++) {
            for (int to = 0; to < 5; to++) {
                x.row(2, from, 2);
                x.row(3, to, 2);
                Check.is("from sort " + from + " to " + to, x.shift(2, 0, 3, 0, 2), from == to ? 2 : -12);
                Check.is("none of them", x.shift(2, 0, 3, 0, 0), from == to ? 0 : -12);
            }
        }
    }

    private static void shiftPlaces() {
        Check.sentence("33: -13 (n below 0, too)");
        int[] ends = {MIN, MIN + 1, -2, -1, 0, 1, 2, 3, 4, 5, 6, 60, 61, MAX - 1, MAX};
        int[] numbers = {MIN, -2, -1, 0, 1, 2, 3, 4, 5, 60, MAX - 1, MAX};
        for (int end : ends) {
            FullerSquare x = new FullerSquare();
            x.row(0, 0, 4);
            x.row(1, 0, 5);
            for (int n : numbers) {
                boolean from = end >= 0 && n >= 0 && (long) end + n <= 4;
                Check.is("shift(0, " + end + ", 1, 0, " + n + ")", x.shift(0, end, 1, 0, n), from ? n : -13);
                boolean to = end >= 0 && n >= 0 && n <= 4 && (long) end + n <= 5;
                Check.is("shift(0, 0, 1, " + end + ", " + n + ")", x.shift(0, 0, 1, end, n), to ? n : -13);
                boolean same = end >= 0 && n >= 0 && (long) end + n <= 5;
                Check.is("shift(1, " + end + ", 1, 0, " + n + ")", x.shift(1, end, 1, 0, n), same ? n : -13);
            }
        }
    }

    private static void shiftNone() {
        Check.sentence("33: n elements: none");
        FullerSquare x = new FullerSquare();
        Towns.row(x, 0, Towns.INTS, 1, 2, 3);
        Towns.row(x, 1, Towns.INTS, 4, 5);
        Check.is("shift(0, 0, 1, 0, 0)", x.shift(0, 0, 1, 0, 0), 0);
        Check.is("from the end: shift(0, 3, 1, 0, 0)", x.shift(0, 3, 1, 0, 0), 0);
        Check.is("to the end: shift(0, 0, 1, 2, 0)", x.shift(0, 0, 1, 2, 0), 0);
        Check.is("behind it: shift(0, 4, 1, 0, 0)", x.shift(0, 4, 1, 0, 0), -13);
        Check.is("behind it: shift(0, 0, 1, 3, 0)", x.shift(0, 0, 1, 3, 0), -13);
        elements(x, 1, 4, 5);
    }

    private static void shiftAllOfSixty() {
        Check.sentence("33: n elements of a ROW: all sixty");
        FullerSquare x = new FullerSquare();
        x.row(0, Towns.INTS, 60);
        x.row(1, Towns.INTS, 60);
        for (int i = 0; i < 60; i++) {
            x.put(0, i, i + 1);
        }
        Check.is("61", x.shift(0, 0, 1, 0, 61), -13);
        Check.is("60 from 1 on", x.shift(0, 1, 1, 0, 60), -13);
        Check.is("60", x.shift(0, 0, 1, 0, 60), 60);
        for (int i = 0; i < 60; i++) {
            Check.is("element(1, " + i + ")", x.element(1, i), i + 1);
        }
        Check.is("59 up", x.shift(1, 0, 1, 1, 59), 59);
        Check.is("the last one", x.shift(0, 59, 1, 0, 1), 1);
        for (int i = 0; i < 60; i++) {
            Check.is("element(1, " + i + ")", x.element(1, i), i == 0 ? 60 : i);
        }
    }

    private static void shiftAsTheyWere() {
        Check.sentence("33: to another one (or the same), as they all were before");
        for (int i = 0; i <= 6; i++) {
            for (int j = 0; j <= 6; j++) {
                for (int n = 0; n <= 6 - Math.max(i, j); n++) {
                    long[] due = {1, 2, 3, 4, 5, 6};
                    FullerSquare x = new FullerSquare();
                    Towns.row(x, 0, Towns.LONGS, due);
                    for (int e = 0; e < n; e++) {
                        due[j + e] = i + e + 1;
                    }
                    Check.is("shift(0, " + i + ", 0, " + j + ", " + n + ")", x.shift(0, i, 0, j, n), n);
                    elements(x, 0, due);
                }
            }
        }
        FullerSquare x = new FullerSquare();
        Towns.row(x, 0, Towns.SHORTS, 1, 2, 3);
        Towns.row(x, 1, Towns.SHORTS, 4, 5, 6, 7);
        Check.is("shift(0, 1, 1, 2, 2)", x.shift(0, 1, 1, 2, 2), 2);
        elements(x, 1, 4, 5, 2, 3);
        elements(x, 0, 1, 2, 3);
    }

    private static void shiftOfEachSort() {
        Check.sentence("33: elements of each sort");
        long v = -2L;
        for (int sort = 0; sort < 5; sort++) {
            FullerSquare x = new FullerSquare();
            Towns.row(x, 0, sort, 0, v, 0);
            x.row(1, sort, 2);
            Check.is("sort " + sort, x.shift(0, 1, 1, 1, 1), 1);
            elements(x, 1, 0, sort == Towns.BOOLEANS ? 1 : -2);
        }
    }

    private static void elements(FullerSquare x, int shelf, long... due) {
        for (int i = 0; i < due.length; i++) {
            Check.is("element(" + shelf + ", " + i + ")", x.element(shelf, i), due[i]);
        }
    }

    // ---- promises 34 and 35

    private static void takenShelvesAndKinds() {
        Check.sentence("34: SHELVES 0 .. 5, a KIND k (0 .. 7); BAD");
        Towns.range("taken(v, 0)", 0, 5, v -> {
            FullerSquare x = eight();
            for (int shelf = 0; shelf < 6; shelf++) {
                x.keep(shelf, 3);
            }
            return x.taken(v, 0);
        }, 3);
        for (int kind = 0; kind < 8; kind++) {
            FullerSquare x = eight();
            x.keep(0, kind);
            int[] none = {MIN, -2, -1, 8, 9, MAX};
            for (int k : none) {
                Check.is("KIND " + kind + ": taken(0, " + k + ")", x.taken(0, k), BAD);
            }
            Check.is("KIND " + kind + " for itself", x.taken(0, kind), kind);
        }
    }

    private static void takenNothingThere() {
        Check.sentence("34: -11");
        FullerSquare x = eight();
        for (int shelf = 0; shelf < 6; shelf++) {
            Check.is("taken(" + shelf + ", 7)", x.taken(shelf, 7), -11);
            Check.is("BAD is named first: taken(" + shelf + ", 8)", x.taken(shelf, 8), BAD);
        }
    }

    private static void takenRows() {
        Check.sentence("34: -12: a ROW");
        FullerSquare x = eight();
        for (int sort = 0; sort < 5; sort++) {
            x.row(0, sort, sort);
            Check.is("a ROW of " + sort, x.taken(0, 0), -12);
        }
    }

    private static void takenKinds() {
        Check.sentence("34: a BODY of KIND k, or under it: its KIND; -12");
        int[] above = {-1, 0, 0, 2, 1, 4, 0, 6};
        for (int kind = 0; kind < 8; kind++) {
            FullerSquare x = eight();
            x.keep(0, kind);
            for (int k = 0; k < 8; k++) {
                boolean under = false;
                for (int level = kind; level >= 0; level = above[level]) {
                    under = under || level == k;
                }
                Check.is("KIND " + kind + ": taken(0, " + k + ")", x.taken(0, k), under ? kind : -12);
            }
        }
    }

    private static void countWhat() {
        Check.sentence("35: what 0 .. 7; BAD");
        Towns.range("count(v)", 0, 7, v -> new FullerSquare().count(v), 0);
    }

    private static void countOfEach() {
        Check.sentence("35: how many of each, from none to all");
        FullerSquare x = new FullerSquare();
        int[] most = {4, 12, 8, 4, 120, 40, 50};
        for (int i = 0; i < 5; i++) {
            x.square(9, 0);
        }
        for (int i = 0; i < 13; i++) {
            x.way(1, 1, 1);
        }
        for (int i = 0; i < 9; i++) {
            x.sort(10, 1, 0);
        }
        for (int i = 0; i < 5; i++) {
            Towns.law(x, "q");
        }
        for (int i = 0; i < 120; i++) {
            x.feed('q');
        }
        for (int i = 0; i < 41; i++) {
            x.mend(0, 0, 2 + i);
        }
        for (int i = 0; i < 51; i++) {
            x.body(5);
        }
        x.act(0, 3, 0);
        for (int what = 0; what <= 6; what++) {
            Check.is("count(" + what + ")", x.count(what), most[what]);
        }
        Check.is("count(7)", x.count(7), 10);
    }
}
