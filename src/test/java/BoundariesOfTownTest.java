/** The town's boundaries: Terms 1 without texts, promises 1 to 5 and 8 to 10. A method for each sentence. */
public final class BoundariesOfTownTest {
    private static final int BAD = Towns.BAD, FULL = Towns.FULL, MIN = Towns.MIN, MAX = Towns.MAX;

    public static void main(String[] args) {
        noSquaresNobody();
        squareHolds();
        squareFor();
        fourSquares();
        twoUnlikeSquares();
        wayMinutes();
        wayMost();
        twelveWays();
        sortMany();
        sortWant();
        sortSquare();
        sortPace();
        sortLaw();
        eightSorts();
        rowOfSortsPlaces();
        rowOfSortsNumber();
        rowOfSortsMissing();
        rowOfSortsEnds();
        rowOfSortsNotAsMayBe();
        rowOfSortsFull();
        stroke();
        lag();
        early();
        setOfNothing();
        mendMany();
        mendHolds();
        mendOfNothing();
        ofSorts();
        ofSquares();
        ofWays();
        ofNothing();
        Check.end();
    }

    private static void noSquaresNobody() {
        Check.sentence("1: no squares, nobody");
        FullerSquare x = new FullerSquare();
        for (int what = 0; what <= 7; what++) {
            Check.is("count(" + what + ")", x.count(what), 0);
        }
        for (int what = 0; what <= 23; what++) {
            Check.is("of(0, " + what + ")", x.of(0, what), BAD);
        }
        for (int shelf = 0; shelf < 6; shelf++) {
            Check.is("taken(" + shelf + ", 0)", x.taken(shelf, 0), -11);
        }
        Check.is("trace(0)", x.trace(0), BAD);
        Check.is("feed(49)", x.feed(49), 1);
        Check.is("body(0)", x.body(0), 0);
        Check.is("square(0, 0)", x.square(0, 0), 0);
        Check.is("another object's count(0)", new FullerSquare().count(0), 0);
    }

    // ---- promise 2

    private static void squareHolds() {
        Check.sentence("2: HOLDS (0 .. 999)");
        Towns.range("square(v, 0)", 0, 999, v -> new FullerSquare().square(v, 0), 0);
        Towns.range("of(0, 10) behind square(v, 0)", 0, 999, v -> {
            FullerSquare x = new FullerSquare();
            x.square(v, 0);
            return x.of(0, 10);
        }, v -> v);
    }

    private static void squareFor() {
        Check.sentence("2: FOR (0 .. 2)");
        Towns.range("square(0, v)", 0, 2, v -> new FullerSquare().square(0, v), 0);
        Towns.range("of(0, 11) behind square(0, v)", 0, 2, v -> {
            FullerSquare x = new FullerSquare();
            x.square(0, v);
            return x.of(0, 11);
        }, v -> v);
    }

    private static void fourSquares() {
        Check.sentence("2: SQUARES 0 .. 3; FULL: 4");
        FullerSquare x = new FullerSquare();
        for (int i = 0; i < 4; i++) {
            Check.is("count(0)", x.count(0), i);
            Check.is("square", x.square(100 + i, i % 3), i);
        }
        Check.is("the fifth", x.square(7, 1), FULL);
        Check.is("count(0)", x.count(0), 4);
        for (int i = 0; i < 4; i++) {
            Check.is("of(" + i + ", 10)", x.of(i, 10), 100 + i);
            Check.is("of(" + i + ", 11)", x.of(i, 11), i % 3);
        }
        Check.is("of(4, 10)", x.of(4, 10), BAD);
    }

    // ---- promise 3

    private static void twoUnlikeSquares() {
        Check.sentence("3: between two SQUARES (unlike)");
        for (int squares = 0; squares <= 4; squares++) {
            for (int ab = -12; ab <= 112; ab++) {
                int a = ab / 10, b = ab % 10;
                boolean two = ab >= 0 && a < squares && b < squares && a != b;
                FullerSquare x = Towns.squares(new int[squares]);
                Check.is(squares + " SQUARES: way(" + ab + ", 1, 1)", x.way(ab, 1, 1), two ? 0 : BAD);
                Check.is("of(0, 20)", x.of(0, 20), two ? a : BAD);
                Check.is("of(0, 21)", x.of(0, 21), two ? b : BAD);
            }
        }
        FullerSquare x = Towns.squares(0, 0, 0, 0);
        Check.is("way(MIN, 1, 1)", x.way(MIN, 1, 1), BAD);
        Check.is("way(MAX, 1, 1)", x.way(MAX, 1, 1), BAD);
    }

    private static void wayMinutes() {
        Check.sentence("3: MINUTES (1 .. 30)");
        Towns.range("way(1, v, 1)", 1, 30, v -> Towns.squares(0, 0).way(1, v, 1), 0);
        Towns.range("of(0, 22) behind way(1, v, 1)", 1, 30, v -> Towns.pair(v, 1).of(0, 22), v -> v);
    }

    private static void wayMost() {
        Check.sentence("3: MOST (1 .. 99)");
        Towns.range("way(1, 1, v)", 1, 99, v -> Towns.squares(0, 0).way(1, 1, v), 0);
        Towns.range("of(0, 23) behind way(1, 1, v)", 1, 99, v -> Towns.pair(1, v).of(0, 23), v -> v);
    }

    private static void twelveWays() {
        Check.sentence("3: WAYS 0 .. 11; FULL: 12");
        FullerSquare x = Towns.squares(0, 1, 2);
        for (int i = 0; i < 12; i++) {
            Check.is("count(1)", x.count(1), i);
            Check.is("way", x.way(i % 2 == 0 ? 1 : 20, 1 + i, 99 - i), i);
        }
        Check.is("the thirteenth", x.way(12, 1, 1), FULL);
        Check.is("count(1)", x.count(1), 12);
        for (int i = 0; i < 12; i++) {
            Check.is("of(" + i + ", 20)", x.of(i, 20), i % 2 == 0 ? 0 : 2);
            Check.is("of(" + i + ", 21)", x.of(i, 21), i % 2 == 0 ? 1 : 0);
            Check.is("of(" + i + ", 22)", x.of(i, 22), 1 + i);
            Check.is("of(" + i + ", 23)", x.of(i, 23), 99 - i);
        }
        x.sort(10, 11, 0);
        Check.is("the thirteenth leads nowhere: flow(12)", x.flow(12), 0);
        Check.is("nor is it a short cut: last(12)", x.last(12), 30 - 1 - 2);
    }

    // ---- promise 4

    private static void sortMany() {
        Check.sentence("4: MANY (0 .. 200)");
        int[] refused = {MIN, -11, -10, -9, -2, -1, 2010, 2011, 2020, 10000, MAX};
        for (int mw : refused) {
            FullerSquare x = Towns.squares(0);
            Check.is("sort(" + mw + ", 1, 0)", x.sort(mw, 1, 0), BAD);
            Check.is("count(2)", x.count(2), 0);
        }
        int[] taken = {0, 1, 10, 11, 1990, 1991, 2000, 2001};
        for (int mw : taken) {
            FullerSquare x = Towns.squares(0);
            Check.is("sort(" + mw + ", 1, 0)", x.sort(mw, 1, 0), 0);
            Check.is("of(0, 0)", x.of(0, 0), mw / 10);
        }
    }

    private static void sortWant() {
        Check.sentence("4: WANT (0, 1)");
        for (int want = 0; want < 10; want++) {
            for (int many = 0; many <= 200; many += 100) {
                FullerSquare x = Towns.squares(0);
                int mw = 10 * many + want;
                Check.is("sort(" + mw + ", 1, 0)", x.sort(mw, 1, 0), want < 2 ? 0 : BAD);
                Check.is("of(0, 1)", x.of(0, 1), want < 2 ? want : BAD);
            }
        }
    }

    private static void sortSquare() {
        Check.sentence("4: a SQUARE where all of them are at first");
        for (int squares = 0; squares <= 4; squares++) {
            for (int square = -2; square <= 11; square++) {
                FullerSquare x = Towns.squares(new int[squares]);
                boolean there = square >= 0 && square < squares;
                int sp = 10 * square + 1;
                Check.is(squares + " SQUARES: sort(10, " + sp + ", 0)", x.sort(10, sp, 0), there ? 0 : BAD);
                Check.is("of(0, 2)", x.of(0, 2), there ? square : BAD);
            }
        }
        FullerSquare x = Towns.squares(0, 0, 0, 0);
        Check.is("sort(10, MIN, 0)", x.sort(10, MIN, 0), BAD);
        Check.is("sort(10, MAX, 0)", x.sort(10, MAX, 0), BAD);
        Check.is("sort(10, -1, 0)", x.sort(10, -1, 0), BAD);
        Check.is("sort(10, -3, 0)", x.sort(10, -3, 0), BAD);
    }

    private static void sortPace() {
        Check.sentence("4: PACE (1 .. 3)");
        for (int pace = 0; pace < 10; pace++) {
            boolean may = pace >= 1 && pace <= 3;
            for (int square = 0; square < 2; square++) {
                FullerSquare x = Towns.squares(0, 0);
                int sp = 10 * square + pace;
                Check.is("sort(10, " + sp + ", 0)", x.sort(10, sp, 0), may ? 0 : BAD);
                Check.is("of(0, 3)", x.of(0, 3), may ? pace : BAD);
            }
        }
    }

    private static void sortLaw() {
        Check.sentence("4: a LAW (0 .. 3)");
        Towns.range("sort(10, 1, v)", 0, 3, v -> Towns.squares(0).sort(10, 1, v), 0);
        Towns.range("of(0, 4) behind sort(10, 1, v)", 0, 3, v -> {
            FullerSquare x = Towns.squares(0);
            x.sort(10, 1, v);
            return x.of(0, 4);
        }, v -> v);
    }

    private static void eightSorts() {
        Check.sentence("4: SORTS 0 .. 7; FULL: 8");
        FullerSquare x = Towns.squares(0, 1);
        for (int i = 0; i < 8; i++) {
            Check.is("count(2)", x.count(2), i);
            Check.is("sort", x.sort(10 * i + i % 2, 10 * (i % 2) + 1 + i % 3, i % 4), i);
        }
        Check.is("the ninth", x.sort(2001, 13, 3), FULL);
        Check.is("count(2)", x.count(2), 8);
        for (int i = 0; i < 8; i++) {
            int[] due = {i, i % 2, i % 2, 1 + i % 3, i % 4};
            for (int what = 0; what < 5; what++) {
                Check.is("of(" + i + ", " + what + ")", x.of(i, what), due[what]);
            }
        }
        Check.is("of(8, 0)", x.of(8, 0), BAD);
    }

    // ---- promise 5

    private static FullerSquare withRow(long... elements) {
        FullerSquare x = Towns.squares(0, 0);
        Towns.row(x, 0, Towns.SHORTS, elements);
        return x;
    }

    private static void rowOfSortsPlaces() {
        Check.sentence("5: from place i on; 0 with i below 0");
        long[] threes = {10, 1, 0, 20, 1, 0};
        Check.is("sorts(0, -1, 1)", withRow(threes).sorts(0, -1, 1), 0);
        Check.is("sorts(0, -3, 2)", withRow(threes).sorts(0, -3, 2), 0);
        Check.is("sorts(0, MIN, 8)", withRow(threes).sorts(0, MIN, 8), 0);
        Check.is("sorts(0, 0, 1)", withRow(threes).sorts(0, 0, 1), 1);
        Check.is("sorts(0, 3, 1)", withRow(threes).sorts(0, 3, 1), 1);
        Check.is("sorts(0, 4, 1)", withRow(threes).sorts(0, 4, 1), 0);
        Check.is("sorts(0, 6, 1)", withRow(threes).sorts(0, 6, 1), 0);
        Check.is("sorts(0, 7, 1)", withRow(threes).sorts(0, 7, 1), 0);
        Check.is("sorts(0, MAX, 8)", withRow(threes).sorts(0, MAX, 8), 0);
        Check.is("sorts(0, MAX - 2, 8)", withRow(threes).sorts(0, MAX - 2, 8), 0);
        FullerSquare below = withRow(1, 0, 10, 1, 0);
        Check.is("sorts(0, -1, 1), where 2 is a place", below.sorts(0, -1, 1), 0);
        Check.is("sorts(0, 2, 1)", below.sorts(0, 2, 1), 1);
        Check.is("count(2)", below.count(2), 1);
        FullerSquare x = withRow(threes);
        x.sorts(0, 3, 1);
        Check.is("of(0, 0) from place 3 on", x.of(0, 0), 2);
    }

    private static void rowOfSortsNumber() {
        Check.sentence("5: n (1 .. 8) of them");
        long[] nine = new long[27];
        for (int i = 0; i < 27; i += 3) {
            nine[i] = 10 * i;
            nine[i + 1] = 11;
        }
        Towns.range("sorts(0, 0, v)", 1, 8, v -> withRow(nine).sorts(0, 0, v), v -> v);
        Towns.range("sorts(v, 0, 1)", 0, 5, v -> new FullerSquare().sorts(v, 0, 1), 0);
        FullerSquare x = withRow(nine);
        Check.is("sorts(0, 0, 2)", x.sorts(0, 0, 2), 2);
        Check.is("count(2)", x.count(2), 2);
        Check.is("of(1, 0)", x.of(1, 0), 3);
        Check.is("of(1, 2)", x.of(1, 2), 1);
        Check.is("of(2, 0)", x.of(2, 0), BAD);
    }

    private static void rowOfSortsMissing() {
        Check.sentence("5: it ends where the row is missing; -12 (no ROW of shorts)");
        FullerSquare x = Towns.squares(0);
        Check.is("nothing there", x.sorts(0, 0, 1), 0);
        x.body(0);
        x.keep(0, 0);
        Check.is("a BODY", x.sorts(0, 0, 1), -12);
        for (int sort = 0; sort < 5; sort++) {
            x.row(0, sort, 3);
            x.put(0, 1, 1);
            Check.is("a ROW of " + sort, x.sorts(0, 0, 1), sort == Towns.SHORTS ? 1 : -12);
            Check.is("count(2)", x.count(2), sort < Towns.SHORTS ? 0 : 1);
        }
        x.keep(0, -1);
        Check.is("nothing there any more", x.sorts(0, 0, 8), 0);
    }

    private static void rowOfSortsEnds() {
        Check.sentence("5: it ends where the row ends (within a three, too)");
        for (int size = 0; size <= 10; size++) {
            long[] elements = new long[size];
            for (int i = 1; i < size; i += 3) {
                elements[i] = 1;
            }
            FullerSquare x = withRow(elements);
            Check.is(size + " elements: sorts(0, 0, 8)", x.sorts(0, 0, 8), size / 3);
            Check.is("count(2)", x.count(2), size / 3);
        }
        FullerSquare x = withRow(new long[60]);
        x.put(0, 58, 1);
        Check.is("the last three of sixty", x.sorts(0, 57, 8), 1);
    }

    private static void rowOfSortsNotAsMayBe() {
        Check.sentence("5: it ends where one is not as it may be: those ahead came");
        long[][] wrong = {{-1, 1, 0}, {2, 1, 0}, {2010, 1, 0}, {10, 0, 0}, {10, 4, 0}, {10, 21, 0}, {10, -1, 0},
            {10, 1, -1}, {10, 1, 4}};
        for (long[] three : wrong) {
            for (int ahead = 0; ahead <= 2; ahead++) {
                long[] elements = new long[9];
                for (int i = 0; i < 9; i += 3) {
                    elements[i] = 10;
                    elements[i + 1] = 1;
                }
                System.arraycopy(three, 0, elements, 3 * ahead, 3);
                FullerSquare x = withRow(elements);
                String told = three[0] + ", " + three[1] + ", " + three[2] + " behind " + ahead;
                Check.is(told + ": sorts(0, 0, 3)", x.sorts(0, 0, 3), ahead);
                Check.is(told + ": count(2)", x.count(2), ahead);
            }
        }
    }

    private static void rowOfSortsFull() {
        Check.sentence("5: it ends where SORTS are FULL: those ahead came");
        FullerSquare x = withRow(30, 1, 0, 40, 1, 0, 50, 1, 0);
        for (int i = 0; i < 6; i++) {
            x.sort(0, 1, 0);
        }
        Check.is("sorts(0, 0, 3) with two places left", x.sorts(0, 0, 3), 2);
        Check.is("of(7, 0)", x.of(7, 0), 4);
        Check.is("sorts(0, 0, 3) with none", x.sorts(0, 0, 3), 0);
        Check.is("count(2)", x.count(2), 8);
    }

    // ---- promise 8

    private static int setTwice(int what, int v, int again) {
        FullerSquare x = new FullerSquare();
        int was = x.set(what, v);
        return was < 0 ? was : x.set(what, again);
    }

    private static void stroke() {
        Check.sentence("8: THE STROKE (1 .. 60 MINUTES; 30 at first)");
        Towns.range("set(0, v)", 1, 60, v -> new FullerSquare().set(0, v), 30);
        Towns.range("set(0, 9) behind set(0, v)", 1, 60, v -> setTwice(0, v, 9), v -> v);
    }

    private static void lag() {
        Check.sentence("8: LAG (0 .. 9; 0 at first)");
        Towns.range("set(1, v)", 0, 9, v -> new FullerSquare().set(1, v), 0);
        Towns.range("set(1, 5) behind set(1, v)", 0, 9, v -> setTwice(1, v, 5), v -> v);
    }

    private static void early() {
        Check.sentence("8: EARLY (0 .. 20; 0 at first)");
        Towns.range("set(2, v)", 0, 20, v -> new FullerSquare().set(2, v), 0);
        Towns.range("set(2, 5) behind set(2, v)", 0, 20, v -> setTwice(2, v, 5), v -> v);
    }

    private static void setOfNothing() {
        Check.sentence("8: what 0 .. 2; BAD");
        Towns.range("set(v, 1)", 0, 2, v -> new FullerSquare().set(v, 1), v -> v == 0 ? 30 : 0);
        FullerSquare x = new FullerSquare();
        Check.is("set(0, 0)", x.set(0, 0), BAD);
        Check.is("set(0, 61)", x.set(0, 61), BAD);
        Check.is("set(1, 10)", x.set(1, 10), BAD);
        Check.is("set(2, 21)", x.set(2, 21), BAD);
        Check.is("THE STROKE stayed", x.set(0, 1), 30);
        Check.is("LAG stayed", x.set(1, 1), 0);
        Check.is("EARLY stayed", x.set(2, 1), 0);
    }

    // ---- promise 9

    private static FullerSquare oneOfEach() {
        FullerSquare x = new FullerSquare();
        x.square(5, 0);
        x.sort(70, 1, 0);
        return x;
    }

    private static void mendMany() {
        Check.sentence("9: MANY (0 .. 200) of a SORT becomes v");
        Towns.range("mend(0, 0, v)", 0, 200, v -> oneOfEach().mend(0, 0, v), 7);
        Towns.range("mend(v, 0, 9)", 0, 7, v -> {
            FullerSquare x = Towns.squares(0);
            for (int i = 0; i < 8; i++) {
                x.sort(10 * i, 1, 0);
            }
            return x.mend(v, 0, 9);
        }, v -> v);
        FullerSquare x = oneOfEach();
        x.mend(0, 0, 200);
        Check.is("of(0, 0)", x.of(0, 0), 200);
        Check.is("mend(0, 0, 201)", x.mend(0, 0, 201), BAD);
        Check.is("of(0, 0)", x.of(0, 0), 200);
        Check.is("mend(0, 0, 0)", x.mend(0, 0, 0), 200);
        Check.is("mend(0, 0, -1)", x.mend(0, 0, -1), BAD);
        Check.is("of(0, 0)", x.of(0, 0), 0);
        Check.is("HOLDS stayed", x.of(0, 10), 5);
        Check.is("mend(1, 0, 1): one SORT only", x.mend(1, 0, 1), BAD);
    }

    private static void mendHolds() {
        Check.sentence("9: HOLDS (0 .. 999) of a SQUARE becomes v");
        Towns.range("mend(0, 1, v)", 0, 999, v -> oneOfEach().mend(0, 1, v), 5);
        Towns.range("mend(v, 1, 9)", 0, 3, v -> Towns.squares(0, 0, 0, 0).mend(v, 1, 9), 999);
        FullerSquare x = oneOfEach();
        x.mend(0, 1, 999);
        Check.is("of(0, 10)", x.of(0, 10), 999);
        Check.is("mend(0, 1, 1000)", x.mend(0, 1, 1000), BAD);
        Check.is("of(0, 10)", x.of(0, 10), 999);
        Check.is("mend(0, 1, 0)", x.mend(0, 1, 0), 999);
        Check.is("mend(0, 1, -1)", x.mend(0, 1, -1), BAD);
        Check.is("of(0, 10)", x.of(0, 10), 0);
        Check.is("MANY stayed", x.of(0, 0), 7);
        Check.is("mend(1, 1, 1): one SQUARE only", x.mend(1, 1, 1), BAD);
        FullerSquare holdsMore = oneOfEach();
        Check.is("mend(0, 0, 201): no SQUARE's HOLDS", holdsMore.mend(0, 0, 201), BAD);
        Check.is("mend(0, 1, 201)", holdsMore.mend(0, 1, 201), 5);
    }

    private static void mendOfNothing() {
        Check.sentence("9: BAD");
        FullerSquare x = new FullerSquare();
        Check.is("mend(0, 0, 0) without SORTS", x.mend(0, 0, 0), BAD);
        Check.is("mend(0, 1, 0) without SQUARES", x.mend(0, 1, 0), BAD);
        x = oneOfEach();
        int[] none = {MIN, -1, 2, 3, 10, MAX};
        for (int what : none) {
            Check.is("mend(0, " + what + ", 1)", x.mend(0, what, 1), BAD);
        }
        Check.is("count(5)", x.count(5), 0);
    }

    // ---- promise 10

    private static void ofSorts() {
        Check.sentence("10: of a SORT: 0 .. 4");
        FullerSquare x = Towns.squares(0, 0, 0, 0);
        x.sort(11, 31, 2);
        x.sort(2000, 3, 3);
        int[][] due = {{1, 1, 3, 1, 2}, {200, 0, 0, 3, 3}};
        for (int what = 0; what <= 4; what++) {
            Check.is("of(-1, " + what + ")", x.of(-1, what), BAD);
            Check.is("of(0, " + what + ")", x.of(0, what), due[0][what]);
            Check.is("of(1, " + what + ")", x.of(1, what), due[1][what]);
            Check.is("of(2, " + what + ")", x.of(2, what), BAD);
        }
        Check.is("of(1, -1)", x.of(1, -1), BAD);
        Check.is("of(1, 5)", x.of(1, 5), BAD);
    }

    private static void ofSquares() {
        Check.sentence("10: of a SQUARE: 10, 11");
        FullerSquare x = new FullerSquare();
        x.square(3, 2);
        x.square(4, 1);
        int[][] due = {{3, 2}, {4, 1}};
        for (int what = 10; what <= 11; what++) {
            Check.is("of(-1, " + what + ")", x.of(-1, what), BAD);
            Check.is("of(0, " + what + ")", x.of(0, what), due[0][what - 10]);
            Check.is("of(1, " + what + ")", x.of(1, what), due[1][what - 10]);
            Check.is("of(2, " + what + ")", x.of(2, what), BAD);
        }
        Check.is("of(1, 9)", x.of(1, 9), BAD);
        Check.is("of(1, 12)", x.of(1, 12), BAD);
    }

    private static void ofWays() {
        Check.sentence("10: of a WAY: 20 .. 23");
        FullerSquare x = Towns.squares(0, 0, 0);
        x.way(21, 5, 6);
        x.way(2, 7, 8);
        int[][] due = {{2, 1, 5, 6}, {0, 2, 7, 8}};
        for (int what = 20; what <= 23; what++) {
            Check.is("of(-1, " + what + ")", x.of(-1, what), BAD);
            Check.is("of(0, " + what + ")", x.of(0, what), due[0][what - 20]);
            Check.is("of(1, " + what + ")", x.of(1, what), due[1][what - 20]);
            Check.is("of(2, " + what + ")", x.of(2, what), BAD);
        }
        Check.is("of(1, 19)", x.of(1, 19), BAD);
        Check.is("of(1, 24)", x.of(1, 24), BAD);
    }

    private static void ofNothing() {
        Check.sentence("10: BAD");
        FullerSquare x = Towns.pair(1, 1);
        x.sort(10, 1, 0);
        for (int what = -30; what <= 40; what++) {
            boolean is = what >= 0 && what <= 4 || what == 10 || what == 11 || what >= 20 && what <= 23;
            Check.is("of(0, " + what + ") is there", x.of(0, what) == BAD ? 0 : 1, is ? 1 : 0);
        }
        int[] numbers = {MIN, MAX};
        int[] whats = {MIN, -1, 0, 4, 10, 11, 20, 23, MAX};
        for (int number : numbers) {
            for (int what : whats) {
                Check.is("of(" + number + ", " + what + ")", x.of(number, what), BAD);
            }
        }
    }
}
