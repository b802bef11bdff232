import java.util.ArrayList;
import java.util.List;
import java.util.function.Supplier;
import java.util.function.ToLongFunction;

/**
 * What is answered so changes nothing: of two towns made alike one gets a call that is refused (or that only looks, or
 * thinks); all that can be seen of both is alike then.
 */
public final class RefusedTest {
    private static final int BAD = Towns.BAD, NOT = Towns.NOT, FULL = Towns.FULL, STATE = Towns.STATE, VOID = Towns.VOID;
    private static final int MIN = Towns.MIN, MAX = Towns.MAX;
    private static final long NO_ELEMENT = Long.MIN_VALUE;

    private final String name;
    private final Supplier<FullerSquare> town;
    private final List<Long> untouched;

    private RefusedTest(String name, Supplier<FullerSquare> town) {
        this.name = name;
        this.town = town;
        this.untouched = picture(town.get());
    }

    public static void main(String[] args) {
        Check.sentence("what is answered so changes nothing");
        RefusedTest some = new RefusedTest("some", RefusedTest::some);
        refusedOfTheTown(some);
        refusedSorts(some);
        refusedRuns(some);
        refusedThoughts(some);
        refusedBells(some);
        refusedActs(some);
        refusedRows(some);
        refusedShifts(some);
        onlyLooksAndThinks(some);
        RefusedTest full = new RefusedTest("full", RefusedTest::full);
        refusedWhenFull(full);
        onlyLooksAndThinks(full);
        refusedWhenEmpty(new RefusedTest("empty", RefusedTest::empty));
        Check.sentence("27: 0, and no TRACE then");
        noActChangesTheTraceAlone();
        Check.sentence("all memory is the class's own");
        some.besideAnother(RefusedTest::full);
        some.besideAnother(RefusedTest::some);
        full.besideAnother(RefusedTest::some);
        Check.end();
    }

    // ---- the towns

    /** Some of everything, a RUN, CHANGES that may be UNDONE and one to be DONE AGAIN, and a SHELF of each kind. */
    private static FullerSquare some() {
        FullerSquare x = new FullerSquare();
        x.square(50, 0);
        x.square(20, 1);
        x.square(7, 1);
        x.way(1, 2, 3);
        x.way(10, 1, 4);
        x.sort(101, 2, 0);
        x.sort(60, 11, 1);
        x.sort(91, 21, 3);
        Towns.law(x, "f");
        Towns.law(x, "m<9?0;q");
        Towns.feed(x, "q+");
        x.set(0, 20);
        x.set(1, 2);
        x.set(2, 3);
        x.mend(0, 0, 12);
        x.mend(1, 1, 22);
        x.mend(2, 1, 8);
        x.mend(1, 0, 5);
        x.undo();
        x.run();
        Towns.bodies(x, 5, 3, 7);
        x.act(0, 3, 9);
        x.keep(0, 1);
        Towns.row(x, 1, Towns.BYTES, 1, 2, 3, 4, 5, 6, 7, 8, 9, 10);
        Towns.row(x, 2, Towns.SHORTS, 11, 1);
        Towns.row(x, 3, Towns.LONGS, 7, 8, 9);
        x.row(5, Towns.BYTES, 9);
        return x;
    }

    private static FullerSquare full() {
        FullerSquare x = Towns.squares(0, 1, 2, 1);
        for (int i = 0; i < 12; i++) {
            x.way(i % 2 == 0 ? 12 : 10, 1 + i, 20 + i);
        }
        for (int k = 0; k < 8; k++) {
            x.sort(100 + 10 * k + k % 2, 10 * (k % 4) + 1 + k % 3, k % 4);
        }
        for (int i = 0; i < 4; i++) {
            Towns.law(x, "" + i);
        }
        Towns.feed(x, "q".repeat(120));
        for (int i = 0; i < 50; i++) {
            x.body(i % 8);
        }
        x.act(49, 1, 1);
        x.mend(7, 0, 3);
        x.mend(3, 1, 6);
        x.undo();
        x.run();
        Towns.row(x, 0, Towns.SHORTS, 10, 1, 0);
        Towns.early(x, 1, 2);
        x.row(3, Towns.SHORTS, 4);
        x.keep(2, 49);
        return x;
    }

    private static FullerSquare empty() {
        FullerSquare x = new FullerSquare();
        Towns.early(x, 0, 5);
        x.row(1, Towns.BYTES, 10);
        return x;
    }

    // ---- what can be seen

    private static List<Long> picture(FullerSquare x) {
        List<Long> seen = new ArrayList<>();
        for (int what = 0; what < 8; what++) {
            seen.add((long) x.count(what));
        }
        fields(x, seen);
        theRun(x, seen);
        for (int i = 0; i < 10; i++) {
            seen.add((long) x.trace(i));
        }
        for (int shelf = 0; shelf < 6; shelf++) {
            for (int i = 0; i < 11; i++) {
                seen.add(x.element(shelf, i));
            }
            seen.add((long) x.taken(shelf, 0));
        }
        changes(x, seen);
        seen.add((long) x.set(0, 5));
        seen.add((long) x.set(1, 5));
        seen.add((long) x.set(2, 5));
        seen.add((long) x.law());
        return seen;
    }

    private static void fields(FullerSquare x, List<Long> seen) {
        for (int k = 0; k < x.count(2); k++) {
            for (int what = 0; what < 5; what++) {
                seen.add((long) x.of(k, what));
            }
        }
        for (int i = 0; i < x.count(0); i++) {
            seen.add((long) x.of(i, 10));
            seen.add((long) x.of(i, 11));
        }
        for (int w = 0; w < 12; w++) {
            for (int what = 20; what < 24; what++) {
                seen.add((long) x.of(w, what));
            }
        }
    }

    private static void theRun(FullerSquare x, List<Long> seen) {
        for (int what = 0; what < 5; what++) {
            seen.add((long) x.told(what));
        }
        int stroke = x.told(0);
        for (int square = 0; square < 4; square++) {
            seen.add((long) x.told(10 + square));
            seen.add((long) x.led(stroke / 2, square, -1));
            for (int sort = 0; sort < 8; sort++) {
                seen.add((long) x.led(stroke, square, sort));
            }
        }
    }

    private static void changes(FullerSquare x, List<Long> seen) {
        for (int i = 0; i < 4; i++) {
            seen.add((long) x.redo());
        }
        for (int i = 0; i < 5; i++) {
            seen.add((long) x.undo());
            seen.add((long) x.of(0, 0) + 1000 * x.of(1, 10));
        }
    }

    // ---- calls

    private void refused(String told, long due, ToLongFunction<FullerSquare> call) {
        FullerSquare x = town.get();
        Check.is(name + ": " + told, call.applyAsLong(x), due);
        same(told, x);
    }

    private void looks(String told, ToLongFunction<FullerSquare> call) {
        FullerSquare x = town.get();
        call.applyAsLong(x);
        same(told, x);
    }

    /** Nothing that another object is asked changes this one. */
    private void besideAnother(Supplier<FullerSquare> other) {
        FullerSquare x = town.get();
        FullerSquare beside = other.get();
        beside.square(1, 1);
        beside.paid(0);
        beside.often(1, 200);
        picture(beside);
        same("the calls of another object", x);
    }

    private void same(String told, FullerSquare x) {
        List<Long> seen = picture(x);
        Check.is(name + ": as much is seen behind " + told, seen.size(), untouched.size());
        for (int i = 0; i < Math.min(seen.size(), untouched.size()); i++) {
            Check.is(name + ": what is seen at " + i + " behind " + told, seen.get(i), untouched.get(i));
        }
    }

    private static void refusedOfTheTown(RefusedTest t) {
        int[][] squares = {{-1, 0}, {1000, 0}, {0, -1}, {0, 3}, {MIN, MIN}, {MAX, MAX}};
        for (int[] a : squares) {
            t.refused("square(" + a[0] + ", " + a[1] + ")", BAD, x -> x.square(a[0], a[1]));
        }
        int[][] ways = {{11, 1, 1}, {3, 1, 1}, {30, 1, 1}, {-1, 1, 1}, {-10, 1, 1}, {1, 0, 1}, {1, 31, 1}, {1, 1, 0},
            {1, 1, 100}, {MAX, 1, 1}};
        for (int[] a : ways) {
            t.refused("way(" + a[0] + ", " + a[1] + ", " + a[2] + ")", BAD, x -> x.way(a[0], a[1], a[2]));
        }
        int[][] sorts = {{12, 1, 0}, {-1, 1, 0}, {2010, 1, 0}, {10, 0, 0}, {10, 4, 0}, {10, 31, 0}, {10, -1, 0},
            {10, 1, -1}, {10, 1, 4}};
        for (int[] a : sorts) {
            t.refused("sort(" + a[0] + ", " + a[1] + ", " + a[2] + ")", BAD, x -> x.sort(a[0], a[1], a[2]));
        }
        t.refused("feed(-1)", BAD, x -> x.feed(-1));
        t.refused("feed(256)", BAD, x -> x.feed(256));
        int[][] sets = {{0, 0}, {0, 61}, {1, -1}, {1, 10}, {2, -1}, {2, 21}, {3, 1}, {-1, 1}};
        for (int[] a : sets) {
            t.refused("set(" + a[0] + ", " + a[1] + ")", BAD, x -> x.set(a[0], a[1]));
        }
        int[][] mends = {{0, 0, -1}, {0, 0, 201}, {3, 0, 1}, {-1, 0, 1}, {0, 1, -1}, {0, 1, 1000}, {3, 1, 1}, {-1, 1, 1},
            {0, 2, 1}, {0, -1, 1}};
        for (int[] a : mends) {
            t.refused("mend(" + a[0] + ", " + a[1] + ", " + a[2] + ")", BAD, x -> x.mend(a[0], a[1], a[2]));
        }
        t.refused("mend(0, 0, 12) to the same", 12, x -> x.mend(0, 0, 12));
        t.refused("mend(2, 1, 8) to the same", 8, x -> x.mend(2, 1, 8));
    }

    private static void refusedSorts(RefusedTest t) {
        t.refused("sorts(6, 0, 1)", BAD, x -> x.sorts(6, 0, 1));
        t.refused("sorts(-1, 0, 1)", BAD, x -> x.sorts(-1, 0, 1));
        t.refused("sorts(2, 0, 0)", BAD, x -> x.sorts(2, 0, 0));
        t.refused("sorts(2, 0, 9)", BAD, x -> x.sorts(2, 0, 9));
        t.refused("sorts of a BODY", -12, x -> x.sorts(0, 0, 1));
        t.refused("sorts of bytes", -12, x -> x.sorts(1, 0, 1));
        t.refused("sorts of longs", -12, x -> x.sorts(3, 0, 1));
        t.refused("sorts of nothing", 0, x -> x.sorts(4, 0, 1));
        t.refused("sorts of a row that ends", 0, x -> x.sorts(2, 0, 1));
        t.refused("sorts(2, -1, 1)", 0, x -> x.sorts(2, -1, 1));
    }

    private static void refusedRuns(RefusedTest t) {
        int[] whats = {-1, 5, 9, 12, 19, 24, MIN, MAX};
        for (int what : whats) {
            t.refused("of(0, " + what + ")", BAD, x -> x.of(0, what));
        }
        t.refused("of(3, 0)", BAD, x -> x.of(3, 0));
        t.refused("of(-1, 10)", BAD, x -> x.of(-1, 10));
        t.refused("of(2, 20)", BAD, x -> x.of(2, 20));
        int[][] led = {{-1, 0, 0}, {21, 0, 0}, {0, 3, 0}, {0, -1, 0}, {0, 0, 3}, {0, 0, -2}};
        for (int[] a : led) {
            t.refused("led(" + a[0] + ", " + a[1] + ", " + a[2] + ")", VOID, x -> x.led(a[0], a[1], a[2]));
        }
        int[] told = {-1, 5, 9, 13, MIN, MAX};
        for (int what : told) {
            t.refused("told(" + what + ")", VOID, x -> x.told(what));
        }
    }

    private static void refusedThoughts(RefusedTest t) {
        int[] kabs = {-1, 0, 11, 3, 301, MIN, MAX};
        for (int kab : kabs) {
            t.refused("last(" + kab + ")", BAD, x -> x.last(kab));
            t.refused("flow(" + kab + ")", BAD, x -> x.flow(kab));
        }
        t.refused("last(2)", NOT, x -> x.last(2));
        t.refused("fewer(2)", BAD, x -> x.fewer(2));
        t.refused("fewer(-1)", BAD, x -> x.fewer(-1));
        int[] nds = {-1, 0, 9, 13, 210, MIN, MAX};
        for (int nd : nds) {
            t.refused("often(1, " + nd + ")", BAD, x -> x.often(1, nd));
        }
        t.refused("sooner(-1)", BAD, x -> x.sooner(-1));
        t.refused("sooner(10)", BAD, x -> x.sooner(10));
        t.refused("paid(3)", BAD, x -> x.paid(3));
        t.refused("paid(-1)", BAD, x -> x.paid(-1));
        t.refused("lead(3)", BAD, x -> x.lead(3));
        t.refused("lead(30)", BAD, x -> x.lead(30));
        t.refused("lead(-1)", BAD, x -> x.lead(-1));
        t.refused("serves(3)", BAD, x -> x.serves(3));
        t.refused("serves(-1)", BAD, x -> x.serves(-1));
        t.refused("judge(6)", BAD, x -> x.judge(6));
        t.refused("judge of nothing", -11, x -> x.judge(4));
        t.refused("judge of a BODY", -12, x -> x.judge(0));
        t.refused("judge of longs", -12, x -> x.judge(3));
        t.refused("judge of two", -13, x -> x.judge(2));
    }

    private static void refusedBells(RefusedTest t) {
        t.refused("bell(6, 0)", BAD, x -> x.bell(6, 0));
        t.refused("bell(1, 3)", BAD, x -> x.bell(1, 3));
        t.refused("bell(1, -1)", BAD, x -> x.bell(1, -1));
        t.refused("bell of nothing", -11, x -> x.bell(4, 0));
        t.refused("bell of a BODY", -12, x -> x.bell(0, 0));
        t.refused("bell of shorts", -12, x -> x.bell(2, 0));
        t.refused("bell of nine", -13, x -> x.bell(5, 0));
        t.refused("bell of 55", NOT, x -> x.bell(1, 0));
    }

    private static void refusedActs(RefusedTest t) {
        t.refused("body(8)", BAD, x -> x.body(8));
        t.refused("body(-1)", BAD, x -> x.body(-1));
        int[] places = {-1, 10, 24, MIN, MAX};
        for (int i : places) {
            t.refused("trace(" + i + ")", BAD, x -> x.trace(i));
        }
        int[][] keeps = {{6, -1}, {-1, -1}, {1, 3}, {1, -2}, {6, 0}, {1, MAX}, {1, MIN}};
        for (int[] a : keeps) {
            t.refused("keep(" + a[0] + ", " + a[1] + ")", BAD, x -> x.keep(a[0], a[1]));
        }
        t.refused("taken(6, 0)", BAD, x -> x.taken(6, 0));
        t.refused("taken(0, 8)", BAD, x -> x.taken(0, 8));
        t.refused("taken(0, -1)", BAD, x -> x.taken(0, -1));
        t.refused("taken of nothing", -11, x -> x.taken(4, 0));
        t.refused("taken of a ROW", -12, x -> x.taken(1, 0));
        t.refused("taken for another KIND", -12, x -> x.taken(0, 1));
        t.refused("count(-1)", BAD, x -> x.count(-1));
        t.refused("count(8)", BAD, x -> x.count(8));
    }

    private static void refusedRows(RefusedTest t) {
        int[][] rows = {{6, 0, 1}, {-1, 0, 1}, {1, 5, 1}, {1, -1, 1}, {1, 0, 61}, {1, 0, MAX}, {1, 5, -1}};
        for (int[] a : rows) {
            t.refused("row(" + a[0] + ", " + a[1] + ", " + a[2] + ")", BAD, x -> x.row(a[0], a[1], a[2]));
        }
        t.refused("row(1, 3, -1)", -14, x -> x.row(1, 3, -1));
        t.refused("row(0, 3, MIN)", -14, x -> x.row(0, 3, MIN));
        int[][] puts = {{6, 0, BAD}, {-1, 0, BAD}, {4, 0, -11}, {0, 0, -12}, {3, 3, -13}, {3, -1, -13}, {1, 10, -13},
            {3, MAX, -13}, {3, MIN, -13}};
        for (int[] a : puts) {
            t.refused("put(" + a[0] + ", " + a[1] + ", 99)", a[2], x -> x.put(a[0], a[1], 99));
            t.refused("element(" + a[0] + ", " + a[1] + ")", NO_ELEMENT, x -> x.element(a[0], a[1]));
        }
    }

    private static void refusedShifts(RefusedTest t) {
        int[][] shifts = {{6, 0, 3, 0, 1, BAD}, {3, 0, 6, 0, 1, BAD}, {-1, 0, 3, 0, 1, BAD}, {4, 0, 3, 0, 1, -11},
            {3, 0, 4, 0, 1, -11}, {0, 0, 3, 0, 1, -12}, {3, 0, 0, 0, 1, -12}, {1, 0, 3, 0, 1, -12}, {3, 0, 3, 1, 3, -13},
            {3, 1, 3, 0, 3, -13}, {3, 0, 3, 0, -1, -13}, {3, -1, 3, 0, 2, -13}, {3, 0, 3, -1, 2, -13},
            {3, 0, 3, 0, 4, -13}, {1, 0, 5, 0, 10, -13}, {1, 0, 5, 1, 9, -13}, {5, 1, 1, 0, 9, -13},
            {3, 1, 3, 0, MAX, -13}, {3, 4, 3, 0, 0, -13}};
        for (int[] a : shifts) {
            String told = "shift(" + a[0] + ", " + a[1] + ", " + a[2] + ", " + a[3] + ", " + a[4] + ")";
            t.refused(told, a[5], x -> x.shift(a[0], a[1], a[2], a[3], a[4]));
        }
        t.refused("shift(3, 0, 3, 2, 0)", 0, x -> x.shift(3, 0, 3, 2, 0));
        t.refused("shift(3, 0, 3, 0, 3)", 3, x -> x.shift(3, 0, 3, 0, 3));
    }

    private static void onlyLooksAndThinks(RefusedTest t) {
        t.looks("of(0, 0)", x -> x.of(0, 0));
        t.looks("led(1, 0, -1)", x -> x.led(1, 0, -1));
        t.looks("told(1)", x -> x.told(1));
        t.looks("last(1)", x -> x.last(1));
        t.looks("flow(1)", x -> x.flow(1));
        t.looks("fewer(0)", x -> x.fewer(0));
        t.looks("fewer(1)", x -> x.fewer(1));
        t.looks("often(7, 201)", x -> x.often(7, 201));
        t.looks("sooner(9)", x -> x.sooner(9));
        t.looks("bell(1, 1)", x -> x.bell(1, 1));
        t.looks("judge(3)", x -> x.judge(3));
        t.looks("trace(0)", x -> x.trace(0));
        t.looks("element(3, 0)", x -> x.element(3, 0));
        t.looks("taken(2, 0)", x -> x.taken(2, 0));
        t.looks("count(0)", x -> x.count(0));
        for (int i = 0; i < 3; i++) {
            int number = i;
            t.looks("paid(" + i + ")", x -> x.paid(number));
            t.looks("lead(" + 11 * i + ")", x -> x.lead(11 * number));
            t.looks("serves(" + i + ")", x -> x.serves(number));
        }
    }

    private static void refusedWhenFull(RefusedTest t) {
        t.refused("square(9, 0)", FULL, x -> x.square(9, 0));
        t.refused("way(1, 1, 1)", FULL, x -> x.way(1, 1, 1));
        t.refused("sort(10, 1, 0)", FULL, x -> x.sort(10, 1, 0));
        t.refused("sorts(0, 0, 1)", 0, x -> x.sorts(0, 0, 1));
        t.refused("feed(49)", FULL, x -> x.feed(49));
        t.refused("feed(256)", BAD, x -> x.feed(256));
        t.refused("law()", FULL, FullerSquare::law);
        t.refused("body(0)", FULL, x -> x.body(0));
        t.refused("body(8)", BAD, x -> x.body(8));
        t.refused("keep(2, 50)", BAD, x -> x.keep(2, 50));
    }

    private static void refusedWhenEmpty(RefusedTest t) {
        t.refused("run()", STATE, FullerSquare::run);
        t.refused("led(0, 0, -1)", VOID, x -> x.led(0, 0, -1));
        t.refused("told(0)", VOID, x -> x.told(0));
        t.refused("fewer(0)", NOT, x -> x.fewer(0));
        t.refused("fewer(1)", NOT, x -> x.fewer(1));
        t.refused("often(1, 200)", STATE, x -> x.often(1, 200));
        t.refused("sooner(0)", STATE, x -> x.sooner(0));
        t.refused("bell(0, 0)", STATE, x -> x.bell(0, 0));
        t.refused("bell(1, 0)", NOT, x -> x.bell(1, 0));
        t.refused("paid(0)", BAD, x -> x.paid(0));
        t.refused("lead(0)", BAD, x -> x.lead(0));
        t.refused("serves(0)", BAD, x -> x.serves(0));
        t.refused("undo()", STATE, FullerSquare::undo);
        t.refused("redo()", STATE, FullerSquare::redo);
        t.refused("law() of nothing", -100, FullerSquare::law);
        t.refused("way(1, 1, 1)", BAD, x -> x.way(1, 1, 1));
        t.refused("sort(10, 1, 0)", BAD, x -> x.sort(10, 1, 0));
        t.refused("mend(0, 0, 1)", BAD, x -> x.mend(0, 0, 1));
        t.refused("act(0, 0, 1)", 0, x -> x.act(0, 0, 1));
        t.refused("keep(0, 0)", BAD, x -> x.keep(0, 0));
    }

    private static void noActChangesTheTraceAlone() {
        FullerSquare quiet = some();
        quiet.act(-1, 0, 0);
        List<Long> due = picture(quiet);
        int[][] none = {{3, 0}, {MIN, 0}, {MAX, 0}, {0, 4}, {0, -1}, {0, MAX}};
        for (int[] a : none) {
            FullerSquare x = some();
            Check.is("act(" + a[0] + ", " + a[1] + ", 5)", x.act(a[0], a[1], 5), 0);
            Check.is("count(7)", x.count(7), 0);
            Check.is("what is seen behind it is alike", picture(x).equals(due) ? 1 : 0, 1);
        }
        List<Long> ran = picture(some());
        int differ = 0;
        for (int i = 0; i < ran.size(); i++) {
            differ += ran.get(i).equals(due.get(i)) ? 0 : 1;
        }
        Check.is("differing: count(7) and the ten of THE TRACE", differ, 11);
    }
}
