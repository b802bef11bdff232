/** The boundaries of what is thought: Terms 3, promises 14 to 25. A method for each sentence. */
public final class BoundariesOfThoughtTest {
    private static final int BAD = Towns.BAD, NOT = Towns.NOT, STATE = Towns.STATE, MIN = Towns.MIN, MAX = Towns.MAX;

    public static void main(String[] args) {
        lastBad();
        lastBelowZero();
        lastWithoutWay();
        lastByFewestMinutes();
        flowBad();
        flowZeroAtLeast();
        flowOverAllWays();
        fewerWhat();
        fewerAsMany();
        wrong();
        wrongAsMany();
        oftenNumber();
        oftenThing();
        oftenWithoutSquares();
        oftenBySeed();
        oftenToTheStroke();
        soonerLags();
        soonerWithoutSquares();
        bellThing();
        bellPlaces();
        bellKinds();
        bellHundred();
        bellEachHundredth();
        bellWithoutSquares();
        bellStrokes();
        bellStrokeOneAtLeast();
        paidBad();
        paidLeastAndMost();
        paidTakeRoom();
        paidCountAsPeople();
        paidFromTheBeginning();
        leadBad();
        leadMinutes();
        leadWhateverItsLaw();
        leadNot();
        servesBad();
        servesWithoutLaws();
        servesGreatest();
        servesLeast();
        servesLikeOnes();
        judgeRow();
        judgeHolds();
        judgeCouldHaveCome();
        judgeTooMany();
        judgeFirstSquare();
        undoNone();
        undoLatestFirst();
        redoNone();
        redoBehindAnother();
        fortyAtMost();
        fortyAgain();
        noChange();
        thoughtsByThemselves();
        thoughtsAreNotKept();
        Check.end();
    }

    private static final int[] NO_KAB = {MIN, -100, -12, -1, 0, 11, 22, 33, 4, 14, 40, 41, 5, 19, 90, 99, 201, 212, 801,
        901, 1001, 10001, MAX};

    /** Four SQUARES in a row, by 5, 7 and 8 MINUTES; two SORTS of PACE 1 and 3. */
    private static FullerSquare inARow() {
        FullerSquare x = Towns.squares(0, 1, 2, 2);
        x.way(1, 5, 10);
        x.way(12, 7, 20);
        x.way(32, 8, 30);
        x.sort(50, 1, 0);
        x.sort(61, 33, 0);
        return x;
    }

    // ---- promises 14 and 15

    private static void lastBad() {
        Check.sentence("14: BAD (one and the same)");
        FullerSquare x = inARow();
        for (int kab : NO_KAB) {
            Check.is("last(" + kab + ")", x.last(kab), BAD);
        }
        Check.is("last(1)", x.last(1), 25);
        Check.is("last(132)", x.last(132), 6);
        Check.is("without SORTS: last(1)", Towns.pair(1, 1).last(1), BAD);
        Check.is("without anything: last(1)", new FullerSquare().last(1), BAD);
        FullerSquare full = Towns.squares(0, 0, 0);
        for (int k = 0; k < 8; k++) {
            full.sort(0, k == 7 ? 3 : 2, 0);
        }
        full.way(12, 1, 1);
        full.way(1, 2, 7);
        Check.is("the last SORT: last(721)", full.last(721), 27);
        Check.is("the last SORT: last(701)", full.last(701), 24);
        Check.is("the last SORT: flow(701)", full.flow(701), 7 * 25);
        Check.is("the last but one: last(621)", full.last(621), 28);
        Check.is("no such SORT: last(821)", full.last(821), BAD);
        Check.is("no such SQUARE: last(723)", full.last(723), BAD);
        Check.is("no such SQUARE: last(732)", full.last(732), BAD);
    }

    private static void lastBelowZero() {
        Check.sentence("14: LAST: NOT: it is below 0");
        FullerSquare x = inARow();
        for (int stroke = 1; stroke <= 60; stroke++) {
            x.set(0, stroke);
            Check.is("S = " + stroke + ": last(3)", x.last(3), stroke < 20 ? NOT : stroke - 20);
            Check.is("S = " + stroke + ": last(130)", x.last(130), stroke < 60 ? NOT : 0);
            Check.is("S = " + stroke + ": last(132)", x.last(132), stroke < 24 ? NOT : stroke - 24);
        }
    }

    private static void lastWithoutWay() {
        Check.sentence("14: LAST: NOT: no way leads there");
        FullerSquare x = Towns.squares(0, 0, 0, 0);
        x.sort(10, 3, 0);
        x.set(0, 60);
        Check.is("last(1) without a WAY", x.last(1), NOT);
        x.way(1, 1, 1);
        x.way(23, 1, 1);
        Check.is("last(1)", x.last(1), 57);
        Check.is("last(2)", x.last(2), NOT);
        Check.is("last(30)", x.last(30), NOT);
        x.way(12, 1, 1);
        Check.is("last(3)", x.last(3), 51);
        Check.is("last(30)", x.last(30), 51);
    }

    private static void lastByFewestMinutes() {
        Check.sentence("14: LAST: the fewest MINUTES by WAYS from SQUARE to SQUARE");
        FullerSquare x = inARow();
        Check.is("over others: last(3)", x.last(3), 10);
        x.way(30, 21, 1);
        Check.is("directly is longer: last(3)", x.last(3), 10);
        x.way(30, 20, 1);
        Check.is("directly is as long: last(3)", x.last(3), 10);
        x.way(3, 19, 1);
        Check.is("directly is shorter: last(3)", x.last(3), 11);
        x.way(13, 13, 1);
        Check.is("over one: last(3)", x.last(3), 12);
        x.way(12, 1, 1);
        Check.is("over two again: last(3)", x.last(3), 16);
        Check.is("back: last(30)", x.last(30), 16);
        Check.is("last(20)", x.last(20), 24);
    }

    private static void flowBad() {
        Check.sentence("15: BAD (one and the same)");
        FullerSquare x = inARow();
        for (int kab : NO_KAB) {
            Check.is("flow(" + kab + ")", x.flow(kab), BAD);
        }
        Check.is("flow(1)", x.flow(1), 260);
        Check.is("flow(132)", x.flow(132), 210);
        Check.is("flow(10)", x.flow(10), 260);
        Check.is("without SORTS: flow(1)", Towns.pair(1, 1).flow(1), BAD);
        Check.is("without anything: flow(1)", new FullerSquare().flow(1), BAD);
    }

    private static void flowZeroAtLeast() {
        Check.sentence("15: FLOW: THE STROKE and 1, less PACE times MINUTES; 0 at least");
        FullerSquare x = inARow();
        for (int stroke = 1; stroke <= 60; stroke++) {
            x.set(0, stroke);
            Check.is("S = " + stroke + ": flow(1)", x.flow(1), stroke < 5 ? 0 : 10 * (stroke - 4));
            Check.is("S = " + stroke + ": flow(123)", x.flow(123), stroke < 24 ? 0 : 30 * (stroke - 23));
            Check.is("S = " + stroke + ": flow(2), not directly", x.flow(2), 0);
        }
    }

    private static void flowOverAllWays() {
        Check.sentence("15: FLOW: over all WAYS between them");
        FullerSquare x = Towns.squares(0, 1, 2);
        x.sort(10, 1, 0);
        x.set(0, 60);
        for (int i = 1; i <= 12; i++) {
            x.way(i % 2 == 0 ? 1 : 10, 1, 99);
            Check.is(i + " WAYS: flow(1)", x.flow(1), i * 99 * 60);
            Check.is(i + " WAYS: flow(10)", x.flow(10), i * 99 * 60);
        }
        Check.is("flow(2)", x.flow(2), 0);
        FullerSquare y = Towns.pair(9, 5);
        y.way(1, 12, 7);
        y.way(10, 30, 9);
        y.sort(10, 1, 0);
        y.set(0, 10);
        Check.is("one below 0 takes nothing from another: flow(1)", y.flow(1), 10);
        y.set(0, 12);
        Check.is("flow(1)", y.flow(1), 20 + 7);
    }

    // ---- promise 16

    private static void fewerWhat() {
        Check.sentence("16: what 0, 1; BAD");
        FullerSquare x = Towns.squares(0);
        x.sort(10, 1, 0);
        int[] none = {MIN, -2, -1, 2, 3, MAX};
        for (int what : none) {
            Check.is("fewer(" + what + ")", x.fewer(what), BAD);
        }
        Check.is("fewer(0)", x.fewer(0), 1);
        Check.is("fewer(1)", x.fewer(1), 0);
    }

    private static void fewerAsMany() {
        Check.sentence("16: FEWER: the WANT of fewer PEOPLE (of as many: NOT)");
        int[][] manies = {{0, 0}, {1, 1}, {200, 200}, {1, 0}, {0, 1}, {200, 199}, {199, 200}};
        int[] due = {NOT, NOT, NOT, 1, 0, 1, 0};
        for (int i = 0; i < manies.length; i++) {
            FullerSquare x = Towns.squares(2);
            x.sort(10 * manies[i][0], 1, 0);
            x.sort(10 * manies[i][1] + 1, 1, 0);
            Check.is("fewer(0) of " + manies[i][0] + " and " + manies[i][1], x.fewer(0), due[i]);
        }
        Check.is("nobody: fewer(0)", new FullerSquare().fewer(0), NOT);
        FullerSquare x = Towns.squares(2);
        for (int k = 0; k < 4; k++) {
            x.sort(2000, 1, 0);
            x.sort(2001, 1, 0);
        }
        Check.is("800 and 800: fewer(0)", x.fewer(0), NOT);
        x.mend(6, 0, 199);
        Check.is("799 and 800: fewer(0)", x.fewer(0), 0);
    }

    private static void wrong() {
        Check.sentence("16: WRONG: whether DONE is what fewer want: 1, 0");
        for (int done = 0; done <= 2; done++) {
            for (int few = 0; few <= 1; few++) {
                FullerSquare x = Towns.squares(done);
                x.sort(30 + few, 1, 0);
                x.sort(41 - few, 1, 0);
                Check.is("DONE " + done + ", fewer want " + few, x.fewer(1), done == few ? 1 : 0);
                Check.is("fewer(0)", x.fewer(0), few);
            }
        }
    }

    private static void wrongAsMany() {
        Check.sentence("16: WRONG: NOT: as many want each");
        FullerSquare x = Towns.squares(0);
        Check.is("nobody: fewer(1)", x.fewer(1), NOT);
        x.sort(30, 1, 0);
        Check.is("fewer(1)", x.fewer(1), 0);
        x.sort(31, 1, 0);
        Check.is("three and three: fewer(1)", x.fewer(1), NOT);
        x.mend(0, 0, 2);
        Check.is("two and three: fewer(1)", x.fewer(1), 1);
        Check.is("without SQUARES nobody wants: fewer(1)", new FullerSquare().fewer(1), NOT);
    }

    // ---- promise 17

    private static void oftenNumber() {
        Check.sentence("17: n times (1 .. 20); BAD");
        for (int n = 0; n <= 25; n++) {
            FullerSquare x = Towns.squares(1);
            Check.is("often(5, " + (10 * n + 1) + ")", x.often(5, 10 * n + 1), n >= 1 && n <= 20 ? n : BAD);
        }
        int[] none = {MIN, -202, -20, -11, -10, -9, -1, 2000, MAX};
        for (int nd : none) {
            Check.is("often(5, " + nd + ")", Towns.squares(1).often(5, nd), BAD);
        }
    }

    private static void oftenThing() {
        Check.sentence("17: a told thing (0 .. 2); BAD");
        for (int done = 0; done <= 2; done++) {
            for (int thing = 0; thing < 10; thing++) {
                int due = thing > 2 ? BAD : thing == done ? 20 : 0;
                Check.is("FOR " + done + ": often(5, " + (200 + thing) + ")",
                    Towns.squares(done).often(5, 200 + thing), due);
            }
        }
    }

    private static void oftenWithoutSquares() {
        Check.sentence("17: STATE: no SQUARES");
        Check.is("often(0, 10)", new FullerSquare().often(0, 10), STATE);
        Check.is("often(MAX, 202)", new FullerSquare().often(MAX, 202), STATE);
        Check.is("often(0, 9)", new FullerSquare().often(0, 9), BAD);
        Check.is("often(0, 203)", new FullerSquare().often(0, 203), BAD);
        Check.is("often(0, 212)", new FullerSquare().often(0, 212), BAD);
    }

    /** One SORT of many and one of a few, that stay where they begin: DONE is what the first SORT's SQUARE is FOR. */
    private static FullerSquare strewn(int squares) {
        int[] fors = new int[squares];
        for (int i = 0; i < squares; i++) {
            fors[i] = i % 3;
        }
        FullerSquare x = Towns.squares(fors);
        x.sort(10, 1, 0);
        x.sort(90, 1, 0);
        return x;
    }

    private static void oftenBySeed() {
        Check.sentence("17: by a SEED: SQUARE (z >>> 8) % how many there are, z = z * 1103515245 + 12345 (an int)");
        int[] seeds = {MIN, MIN + 1, -12345, -1, 0, 1, 255, 256, 65535, 1103515245, MAX - 1, MAX};
        for (int squares = 1; squares <= 4; squares++) {
            for (int seed : seeds) {
                for (int n = 1; n <= 20; n += n == 1 ? 1 : 18) {
                    int[] times = new int[3];
                    int z = seed;
                    for (int i = 0; i < n; i++) {
                        z = z * 1103515245 + 12345;
                        z = z * 1103515245 + 12345;
                        times[(z >>> 8) % squares % 3]++;
                    }
                    for (int thing = 0; thing <= 2; thing++) {
                        Check.is(squares + " SQUARES: often(" + seed + ", " + (10 * n + thing) + ")",
                            strewn(squares).often(seed, 10 * n + thing), times[thing]);
                    }
                }
            }
        }
    }

    private static void oftenToTheStroke() {
        Check.sentence("17: OFTEN: DONE of a RUN to THE STROKE");
        for (int minutes = 1; minutes <= 30; minutes += 29) {
            FullerSquare x = Towns.pair(minutes, 99);
            x.sort(91, 1, 0);
            int begins = 0;
            for (int i = 0, z = 5; i < 20; i++) {
                z = z * 1103515245 + 12345;
                begins += (z >>> 8) % 2;
            }
            x.set(0, minutes);
            Check.is("all come by " + minutes + ": often(5, 201)", x.often(5, 201), 20);
            if (minutes > 1) {
                x.set(0, minutes - 1);
                Check.is("none comes by less: often(5, 201)", x.often(5, 201), begins);
            }
        }
    }

    // ---- promise 18

    /**
     * Twelve are SEEN to have become ten in SQUARE 0 as MINUTE 4 began; two of them then turn DONE to 1, if they see it
     * so late at most as told.
     */
    private static FullerSquare turnedIfSeen(int latest) {
        FullerSquare x = Towns.squares(0, 1, 2);
        x.way(1, 1, 99);
        x.way(2, 1, 99);
        x.sort(80, 1, 0);
        x.sort(71, 11, 0);
        x.sort(20, 1, 1);
        x.sort(20, 1, 2);
        Towns.law(x, "q");
        Towns.law(x, "m=17?2;q");
        Towns.law(x, "q=0&h<12&m>" + (15 - latest) + "?1;q");
        x.set(0, 20);
        return x;
    }

    private static void soonerLags() {
        Check.sentence("18: LAGS 0 .. 9; BAD");
        Towns.range("sooner(v)", 0, 9, v -> Towns.squares(1).sooner(v), 1);
        for (int latest = 0; latest <= 9; latest++) {
            FullerSquare x = turnedIfSeen(latest);
            for (int lag = 0; lag <= 9; lag++) {
                x.set(1, 9 - lag);
                Check.is("seen by LAG " + latest + ": sooner(" + lag + ")", x.sooner(lag), lag <= latest ? 1 : 0);
                Check.is("LAG stays", x.set(1, lag), 9 - lag);
                Check.is("seen by LAG " + latest + ": run() by LAG " + lag, x.run(), lag <= latest ? 1 : 0);
            }
        }
    }

    private static void soonerWithoutSquares() {
        Check.sentence("18: STATE: no SQUARES");
        Check.is("sooner(0)", new FullerSquare().sooner(0), STATE);
        Check.is("sooner(9)", new FullerSquare().sooner(9), STATE);
        Check.is("sooner(-1)", new FullerSquare().sooner(-1), BAD);
        Check.is("sooner(10)", new FullerSquare().sooner(10), BAD);
    }

    // ---- promise 19

    private static void bellThing() {
        Check.sentence("19: a told thing (0 .. 2); a SHELF; BAD");
        for (int done = 0; done <= 2; done++) {
            int due = done;
            Towns.range("FOR " + done + ": bell(0, v)", 0, 2, v -> {
                FullerSquare x = Towns.squares(due);
                Towns.early(x, 0, 3);
                return x.bell(0, v);
            }, v -> v == due ? 100 : 0);
        }
        Towns.range("bell(v, 0)", 0, 5, v -> {
            FullerSquare x = Towns.squares(0);
            Towns.early(x, v, 0);
            return x.bell(v, 0);
        }, 100);
    }

    private static void bellPlaces() {
        Check.sentence("19: a ROW of 10 bytes; -13 (it has fewer than 10)");
        for (int size = 0; size <= 60; size++) {
            FullerSquare x = Towns.squares(0);
            x.row(0, Towns.BYTES, size);
            x.put(0, Math.min(size - 1, 9), 100);
            Check.is(size + " bytes: bell(0, 0)", x.bell(0, 0), size < 10 ? -13 : 100);
        }
        FullerSquare x = Towns.squares(0);
        Towns.row(x, 0, Towns.BYTES, 100, 0, 0, 0, 0, 0, 0, 0, 0, 0, 1, -1, 101);
        Check.is("what is behind ten does not matter", x.bell(0, 0), 100);
    }

    private static void bellKinds() {
        Check.sentence("19: -11; -12 (no ROW of bytes)");
        FullerSquare x = Towns.squares(0);
        Check.is("nothing there", x.bell(0, 0), -11);
        x.body(0);
        x.keep(0, 0);
        Check.is("a BODY", x.bell(0, 0), -12);
        for (int sort = 0; sort < 5; sort++) {
            x.row(0, sort, 10);
            x.put(0, 9, 100);
            Check.is("a ROW of " + sort, x.bell(0, 0), sort == Towns.BYTES ? 100 : -12);
        }
        x.keep(0, -1);
        Check.is("nothing there any more", x.bell(0, 0), -11);
    }

    private static void bellHundred() {
        Check.sentence("19: w_e hundredths that make 100; NOT: they do not make 100");
        for (int last = 0; last <= 100; last++) {
            FullerSquare x = Towns.squares(0);
            Towns.row(x, 0, Towns.BYTES, 1, 2, 3, 4, 5, 6, 7, 8, 9, last);
            Check.is("45 and " + last + ": bell(0, 0)", x.bell(0, 0), last == 55 ? 100 : NOT);
        }
        FullerSquare x = Towns.squares(0);
        x.row(0, Towns.BYTES, 10);
        Check.is("0: bell(0, 0)", x.bell(0, 0), NOT);
        Towns.row(x, 0, Towns.BYTES, 100, 100, 100, 56, 0, 0, 0, 0, 0, 0);
        Check.is("356: bell(0, 0)", x.bell(0, 0), NOT);
        Towns.row(x, 0, Towns.BYTES, 100, 100, 100, 100, 100, 100, 100, 100, 100, 100);
        Check.is("1000: bell(0, 0)", x.bell(0, 0), NOT);
        Towns.row(x, 0, Towns.BYTES, 10, 10, 10, 10, 10, 10, 10, 10, 10, 10);
        Check.is("100: bell(0, 0)", x.bell(0, 0), 100);
    }

    private static void bellEachHundredth() {
        Check.sentence("19: w_e (0 .. 100 each); NOT: one is not so");
        for (int e = 0; e < 10; e++) {
            for (int w = 98; w <= 127; w++) {
                FullerSquare x = Towns.squares(0);
                x.row(0, Towns.BYTES, 10);
                x.put(0, e, w);
                x.put(0, (e + 1) % 10, 100 - w);
                Check.is("w_" + e + " is " + w + ", the next " + (100 - w), x.bell(0, 0), w <= 100 ? 100 : NOT);
            }
        }
        FullerSquare x = Towns.squares(0);
        Towns.row(x, 0, Towns.BYTES, 0, 0, 0, 0, 0, 0, 0, -1, 1, 100);
        Check.is("-1, 1, 100: bell(0, 0)", x.bell(0, 0), NOT);
        Towns.row(x, 0, Towns.BYTES, -128, 100, 100, 28, 0, 0, 0, 0, 0, 0);
        Check.is("-128, 100, 100, 28: bell(0, 0)", x.bell(0, 0), NOT);
        Towns.row(x, 0, Towns.BYTES, 101, 0, 0, 0, 0, 0, 0, 0, 0, 0);
        Check.is("101: bell(0, 0)", x.bell(0, 0), NOT);
    }

    private static void bellWithoutSquares() {
        Check.sentence("19: STATE: no SQUARES");
        FullerSquare x = new FullerSquare();
        Towns.early(x, 0, 9);
        Check.is("bell(0, 0)", x.bell(0, 0), STATE);
        Check.is("bell(0, 2)", x.bell(0, 2), STATE);
        Check.is("bell(0, 3)", x.bell(0, 3), BAD);
    }

    private static void bellStrokes() {
        Check.sentence("19: a stroke is e (0 .. 9) MINUTES early");
        for (int e = 0; e <= 9; e++) {
            FullerSquare x = Towns.pair(20, 9);
            x.sort(51, 1, 0);
            Towns.early(x, 0, e);
            for (int stroke = 18; stroke <= 31; stroke++) {
                x.set(0, stroke);
                Check.is("S = " + stroke + ", e = " + e + ": bell(0, 1)", x.bell(0, 1), stroke - e >= 20 ? 100 : 0);
                Check.is("S = " + stroke + ", e = " + e + ": bell(0, 0)", x.bell(0, 0), stroke - e >= 20 ? 0 : 100);
            }
            Check.is("THE STROKE stays", x.set(0, 1), 31);
        }
        FullerSquare x = Towns.pair(20, 9);
        x.sort(51, 1, 0);
        x.set(0, 24);
        Towns.row(x, 0, Towns.BYTES, 1, 2, 3, 4, 5, 6, 7, 8, 9, 55);
        Check.is("by each: bell(0, 1)", x.bell(0, 1), 15);
        Check.is("by each: bell(0, 0)", x.bell(0, 0), 85);
    }

    private static void bellStrokeOneAtLeast() {
        Check.sentence("19: strokes of THE STROKE less e, 1 at least");
        for (int stroke = 1; stroke <= 10; stroke++) {
            for (int e = 0; e <= 9; e++) {
                FullerSquare x = Towns.pair(1, 9);
                x.sort(51, 1, 0);
                x.set(0, stroke);
                Towns.early(x, 0, e);
                Check.is("S = " + stroke + ", e = " + e + ": bell(0, 1)", x.bell(0, 1), 100);
                FullerSquare y = Towns.pair(2, 9);
                y.sort(51, 1, 0);
                y.set(0, stroke);
                Towns.early(y, 0, e);
                Check.is("S = " + stroke + ", e = " + e + ", 2 MINUTES", y.bell(0, 1), stroke - e >= 2 ? 100 : 0);
            }
        }
    }

    // ---- promise 20

    private static void paidBad() {
        Check.sentence("20: PAID in a SQUARE; BAD");
        Towns.range("paid(v)", 0, 3, v -> Towns.squares(0, 0, 0, 0).paid(v), 0);
        Check.is("of one SQUARE: paid(0)", Towns.squares(0).paid(0), 0);
        Check.is("of one SQUARE: paid(1)", Towns.squares(0).paid(1), BAD);
        Check.is("without SQUARES: paid(0)", new FullerSquare().paid(0), BAD);
    }

    private static void paidLeastAndMost() {
        Check.sentence("20: PAID: the least number (0 .. 200) of standers; NOT");
        int[] others = {0, 1, 2, 99, 198, 199, 200, 201, 202};
        for (int many : others) {
            FullerSquare x = Towns.squares(0, 1);
            x.sort(10 * Math.min(200, many), 1, 0);
            x.sort(10 * Math.max(0, many - 200), 1, 0);
            Check.is(many + " ahead: paid(1)", x.paid(1), many + 1 <= 200 ? many + 1 : NOT);
            Check.is(many + " ahead: paid(0)", x.paid(0), 0);
            FullerSquare y = Towns.squares(0, 1);
            y.sort(10 * Math.min(200, many) + 1, 11, 0);
            y.sort(10 * Math.max(0, many - 200) + 1, 11, 0);
            Check.is(many + " behind, like ones: paid(0)", y.paid(0), many <= 200 ? many : NOT);
        }
        FullerSquare z = Towns.squares(1, 0, 1);
        z.sort(90, 1, 0);
        Check.is("done by another SQUARE that is FOR it: paid(2)", z.paid(2), 0);
        Check.is("paid(1)", z.paid(1), 10);
    }

    private static void paidTakeRoom() {
        Check.sentence("20: PAID: they take room");
        for (int holds = 1; holds <= 8; holds++) {
            FullerSquare x = Towns.squares(2, 1, 0);
            x.mend(1, 1, holds);
            x.way(1, 1, 9);
            x.way(12, 1, 9);
            x.sort(90, 1, 0);
            Towns.law(x, "q=2?q;q+1");
            Check.is("nobody comes through, HOLDS " + holds + ": paid(1)", x.paid(1), holds);
        }
    }

    private static void paidCountAsPeople() {
        Check.sentence("20: PAID: they count as PEOPLE there in all, but for WANTS");
        FullerSquare x = Towns.pair(1, 9);
        x.sort(50, 1, 0);
        x.sort(31, 11, 1);
        Towns.law(x, "q");
        Towns.law(x, "h<7?0;q");
        Check.is("they are seen: paid(1)", x.paid(1), 4);
        Check.is("FEWER is without them", x.fewer(0), 1);
        Check.is("WRONG is without them", x.fewer(1), 0);
        x.run();
        Check.is("THE RUN is without them: told(10)", x.told(10), 8);
    }

    private static void paidFromTheBeginning() {
        Check.sentence("20: PAID: from the beginning");
        FullerSquare x = Towns.pair(1, 9);
        x.sort(50, 1, 3);
        for (int early = 0; early <= 20; early += 10) {
            x.set(2, early);
            Check.is("EARLY " + early + ": paid(1)", x.paid(1), 6);
        }
        x.set(0, 1);
        Check.is("S = 1: paid(1)", x.paid(1), 6);
    }

    // ---- promise 21

    private static void leadBad() {
        Check.sentence("21: kd: 10 times the SORT and the SQUARE; BAD");
        FullerSquare x = Towns.squares(0, 0);
        x.sort(10, 1, 0);
        x.sort(10, 11, 0);
        for (int kd = -11; kd <= 40; kd++) {
            boolean is = kd >= 0 && kd / 10 < 2 && kd % 10 < 2;
            Check.is("lead(" + kd + ")", x.lead(kd), is ? 29 : BAD);
        }
        Check.is("lead(MIN)", x.lead(MIN), BAD);
        Check.is("lead(MAX)", x.lead(MAX), BAD);
        Check.is("without SORTS: lead(0)", Towns.squares(0).lead(0), BAD);
        FullerSquare y = Towns.squares(0, 0, 0, 0);
        for (int k = 0; k < 8; k++) {
            y.sort(0, 1, 0);
        }
        Check.is("lead(73)", y.lead(73), 29);
        Check.is("lead(74)", y.lead(74), BAD);
        Check.is("lead(80)", y.lead(80), BAD);
    }

    private static void leadMinutes() {
        Check.sentence("21: LEAD: the greatest MINUTE (0 .. THE STROKE less 1)");
        for (int pace = 1; pace <= 3; pace++) {
            FullerSquare x = Towns.pair(3, 9);
            x.sort(50 + 1, pace, 0);
            for (int stroke = 1; stroke <= 60; stroke++) {
                x.set(0, stroke);
                int due = stroke - 3 * pace;
                Check.is("PACE " + pace + ", S = " + stroke + ": lead(1)", x.lead(1), due < 0 ? NOT : due);
            }
        }
        FullerSquare y = Towns.squares(1);
        y.sort(11, 1, 0);
        for (int stroke = 1; stroke <= 60; stroke += 59) {
            y.set(0, stroke);
            Check.is("whenever, S = " + stroke + ": lead(0)", y.lead(0), stroke - 1);
        }
    }

    private static void leadWhateverItsLaw() {
        Check.sentence("21: LEAD: stays till a MINUTE and goes to a told SQUARE from then on, whatever its LAW");
        FullerSquare x = Towns.pair(1, 9);
        x.sort(51, 11, 0);
        x.sort(30, 1, 1);
        Towns.law(x, "0");
        Towns.law(x, "q");
        Check.is("by its LAW it goes: run()", x.run(), 0);
        Check.is("led it stays: lead(1)", x.lead(1), 29);
        Check.is("led it goes: lead(0)", x.lead(0), NOT);
        Check.is("LAW stays", x.of(0, 4), 0);
        FullerSquare y = Towns.pair(2, 9);
        y.sort(51, 1, 0);
        y.sort(30, 1, 0);
        Towns.law(y, "q");
        Check.is("by its LAW it stays: run()", y.run(), 0);
        Check.is("led it goes: lead(1)", y.lead(1), 28);
        Check.is("the other SORT stays by the same LAW: lead(10)", y.lead(10), 29);
        Check.is("led it stays: lead(0)", y.lead(0), NOT);
        FullerSquare z = Towns.pair(20, 9);
        z.sort(51, 11, 0);
        z.sort(30, 1, 1);
        Towns.law(z, "0");
        Towns.law(z, "q");
        Check.is("till then it stays where it is: lead(1)", z.lead(1), 29);
        FullerSquare v = Towns.pair(3, 9);
        v.sort(50, 11, 0);
        Towns.law(v, "0;q");
        v.set(0, 9);
        Check.is("from then on it goes: lead(0)", v.lead(0), 8);
        v.sort(20, 11, 0);
        v.sort(31, 11, 1);
        Towns.law(v, "q");
        Check.is("it has to come in time: lead(0)", v.lead(0), 6);
    }

    private static void leadNot() {
        Check.sentence("21: LEAD: NOT");
        FullerSquare x = Towns.squares(0, 1, 1);
        x.way(1, 9, 1);
        x.sort(51, 1, 0);
        x.sort(20, 1, 3);
        Check.is("no WAY leads there: lead(2)", x.lead(2), NOT);
        x.set(0, 8);
        Check.is("none comes in time: lead(1)", x.lead(1), NOT);
        x.set(0, 12);
        Check.is("from MINUTE 1 on three come, two stay: lead(1)", x.lead(1), 1);
        x.set(0, 11);
        Check.is("from MINUTE 0 on: lead(1)", x.lead(1), 0);
        x.set(0, 10);
        Check.is("two come, two stay: lead(1)", x.lead(1), NOT);
        FullerSquare y = Towns.squares(2);
        y.sort(10, 1, 0);
        Check.is("FOR nothing: lead(0)", y.lead(0), NOT);
    }

    // ---- promise 22

    private static void servesBad() {
        Check.sentence("22: BAD");
        Towns.range("serves(v)", 0, 7, v -> {
            FullerSquare x = Towns.squares(0);
            for (int k = 0; k < 8; k++) {
                x.sort(10, 1, 0);
            }
            Towns.law(x, "q");
            return x.serves(v);
        }, 0);
        FullerSquare x = Towns.squares(0);
        Towns.law(x, "q");
        Check.is("without SORTS: serves(0)", x.serves(0), BAD);
        x.sort(10, 1, 0);
        Check.is("serves(0)", x.serves(0), 0);
        Check.is("serves(1)", x.serves(1), BAD);
    }

    private static void servesWithoutLaws() {
        Check.sentence("22: STATE: no LAWS");
        FullerSquare x = Towns.squares(0);
        x.sort(10, 1, 0);
        Check.is("serves(0)", x.serves(0), STATE);
        Check.is("BAD is named first: serves(1)", x.serves(1), BAD);
        Towns.law(x, "z");
        Check.is("a fault is none: serves(0)", x.serves(0), STATE);
        Towns.law(x, "q");
        Check.is("serves(0)", x.serves(0), 0);
    }

    /** Ten who want 0 in SQUARE 3, and those who stand in SQUARES 0 and 1 (FOR 0) and 2 (FOR 1): what serves the ten. */
    private static int serves(int[] stand, String... texts) {
        FullerSquare x = Towns.squares(0, 0, 1, 2);
        for (int i = 0; i < 3; i++) {
            x.way(30 + i, 1, 99);
        }
        x.sort(100, 31, 3);
        for (int i = 0; i < 3; i++) {
            x.sort(10 * stand[i] + (i == 2 ? 1 : 0), 10 * i + 1, 0);
        }
        for (String text : texts) {
            Towns.law(x, text);
        }
        int answer = x.serves(0);
        Check.is("LAW stays", x.of(0, 4), 3);
        return answer;
    }

    private static void servesGreatest() {
        Check.sentence("22: SERVES: that with which DONE is its WANT and BY is greatest");
        int[] stand = {5, 3, 4};
        Check.is("BY 11, 8", serves(stand, "0", "1"), 0);
        Check.is("BY 8, 11", serves(stand, "1", "0"), 1);
        Check.is("BY 9 (not done), 8", serves(stand, "2", "1"), 1);
        Check.is("BY 9 (not done), 8, 11, 5 (not done)", serves(stand, "2", "1", "0", "q"), 2);
        Check.is("BY 5 (not done), 9 (not done), 9 (not done), 8", serves(stand, "q", "2", "2", "1"), 3);
        int[] like = {0, 0, 10};
        Check.is("BY 20 (not done), 0", serves(like, "2", "1"), 1);
        Check.is("BY 0", serves(like, "0"), 0);
    }

    private static void servesLeast() {
        Check.sentence("22: SERVES: else (with none) that with which BY is least");
        int[] stand = {5, 3, 4};
        Check.is("BY 9, 5", serves(stand, "2", "q"), 1);
        Check.is("BY 5, 9", serves(stand, "q", "2"), 0);
        Check.is("BY 9", serves(stand, "2"), 0);
        Check.is("BY 9, 9, 9, 5", serves(stand, "2", "2", "2", "q"), 3);
        int[] even = {4, 0, 12};
        Check.is("BY 18, 2", serves(even, "2", "q"), 1);
    }

    private static void servesLikeOnes() {
        Check.sentence("22: SERVES: of like ones the first");
        int[] stand = {5, 3, 4};
        Check.is("BY 11, 11", serves(stand, "0", "0"), 0);
        Check.is("BY 8, 11, 11, 8", serves(stand, "1", "0", "0", "1"), 1);
        Check.is("BY 9, 9 (with none)", serves(stand, "2", "2"), 0);
        Check.is("BY 9, 5, 5 (with none)", serves(stand, "2", "q", "q"), 1);
        int[] like = {0, 0, 10};
        Check.is("BY 20 (not done), 0, 0", serves(like, "2", "1", "0"), 1);
    }

    // ---- promise 23

    private static void judgeRow() {
        Check.sentence("23: a ROW of shorts, one for each SQUARE; BAD, -11, -12, -13");
        Towns.range("judge(v)", 0, 5, v -> new FullerSquare().judge(v), -11);
        FullerSquare x = new FullerSquare();
        x.body(0);
        x.keep(0, 0);
        Check.is("a BODY", x.judge(0), -12);
        for (int sort = 0; sort < 5; sort++) {
            x.row(0, sort, 4);
            Check.is("a ROW of " + sort, x.judge(0), sort == Towns.SHORTS ? NOT : -12);
        }
        for (int squares = 0; squares <= 4; squares++) {
            for (int size = 0; size <= 5; size++) {
                x.row(0, Towns.SHORTS, size);
                Check.is(squares + " SQUARES, " + size + " told", x.judge(0), size < squares ? -13 : NOT);
            }
            x.square(9, 0);
        }
        FullerSquare y = Towns.squares(0);
        Towns.row(y, 0, Towns.SHORTS, 0, 32767);
        Check.is("what is behind the SQUARES does not matter", y.judge(0), NOT);
    }

    private static int judged(FullerSquare x, long... told) {
        Towns.row(x, 0, Towns.SHORTS, told);
        return x.judge(0);
    }

    private static void judgeHolds() {
        Check.sentence("23: JUDGED: the first SQUARE that holds less than is told");
        for (int holds = 0; holds <= 999; holds += 333) {
            FullerSquare x = new FullerSquare();
            x.square(holds, 0);
            for (int k = 0; k < 5; k++) {
                x.sort(2000, 1, 0);
            }
            Check.is("as many as " + holds, judged(x, holds), NOT);
            Check.is("one more than " + holds, judged(x, holds + 1), 0);
            Check.is("32767", judged(x, 32767), 0);
        }
        FullerSquare y = new FullerSquare();
        y.square(0, 0);
        Check.is("0", judged(y, 0), NOT);
        Check.is("1", judged(y, 1), 0);
    }

    private static void judgeCouldHaveCome() {
        Check.sentence("23: JUDGED: to which fewer could have come (at first there, and LAST to it is not NOT)");
        FullerSquare x = Towns.squares(0, 0, 0);
        x.way(1, 10, 1);
        x.sort(30, 1, 0);
        x.sort(51, 2, 0);
        x.sort(70, 3, 0);
        x.sort(20, 11, 0);
        x.sort(90, 21, 0);
        int[] strokes = {1, 9, 10, 19, 20, 29, 30, 60};
        int[] toOne = {2, 2, 5, 5, 10, 10, 17, 17};
        int[] toZero = {15, 15, 17, 17, 17, 17, 17, 17};
        for (int i = 0; i < strokes.length; i++) {
            x.set(0, strokes[i]);
            Check.is("S = " + strokes[i] + ": as many to 1", judged(x, 0, toOne[i], 0), NOT);
            Check.is("S = " + strokes[i] + ": one more to 1", judged(x, 0, toOne[i] + 1, 0), 1);
            Check.is("S = " + strokes[i] + ": as many to 0", judged(x, toZero[i], 0, 0), NOT);
            Check.is("S = " + strokes[i] + ": one more to 0", judged(x, toZero[i] + 1, 0, 0), 0);
            Check.is("S = " + strokes[i] + ": as many to 2", judged(x, 0, 0, 9), NOT);
            Check.is("S = " + strokes[i] + ": one more to 2", judged(x, 0, 0, 10), 2);
        }
    }

    private static void judgeTooMany() {
        Check.sentence("23: JUDGED: NOT: none; all together more than PEOPLE: 9");
        FullerSquare x = Towns.pair(1, 1);
        x.sort(50, 1, 0);
        x.sort(41, 11, 0);
        Check.is("nobody", judged(x, 0, 0), NOT);
        Check.is("nine of nine", judged(x, 4, 5), NOT);
        Check.is("ten of nine", judged(x, 5, 5), 9);
        Check.is("18 of nine", judged(x, 9, 9), 9);
        Check.is("a SQUARE ahead of 9", judged(x, 9, 10), 1);
        FullerSquare y = Towns.squares(0, 0);
        Check.is("none of none", judged(y, 0, 0), NOT);
    }

    private static void judgeFirstSquare() {
        Check.sentence("23: JUDGED: the first SQUARE");
        FullerSquare x = Towns.squares(0, 0, 0, 0);
        for (int i = 0; i < 4; i++) {
            x.mend(i, 1, 5);
            x.sort(60, 10 * i + 1, 0);
        }
        for (int all = 0; all < 16; all++) {
            long[] told = new long[4];
            int first = NOT;
            for (int i = 3; i >= 0; i--) {
                told[i] = (all >> i) % 2 == 1 ? 6 : 5;
                first = (all >> i) % 2 == 1 ? i : first;
            }
            Check.is("SQUARES " + all, judged(x, told), first);
        }
    }

    // ---- promises 24 and 25

    /** The i-th change makes MANY or HOLDS (i % 2) of the one or the other (i / 2 % 2) to i. */
    private static FullerSquare mended(int changes) {
        FullerSquare x = new FullerSquare();
        for (int i = 0; i < 2; i++) {
            x.square(0, 0);
            x.sort(0, 1, 0);
        }
        for (int i = 1; i <= changes; i++) {
            x.mend(i / 2 % 2, i % 2, i);
        }
        return x;
    }

    private static void isMended(FullerSquare x, int changes) {
        for (int field = 0; field < 4; field++) {
            int due = 0;
            for (int i = 1; i <= changes; i++) {
                due = i % 4 == field ? i : due;
            }
            int what = field % 2 == 0 ? 0 : 10;
            Check.is("behind " + changes + ": of(" + field / 2 + ", " + what + ")", x.of(field / 2, what), due);
        }
    }

    private static void undoNone() {
        Check.sentence("24: STATE: none");
        FullerSquare x = new FullerSquare();
        Check.is("undo()", x.undo(), STATE);
        x.square(1, 0);
        x.sort(10, 1, 0);
        x.set(0, 9);
        Check.is("what comes is no CHANGE: undo()", x.undo(), STATE);
        x.mend(0, 0, 201);
        Check.is("what is BAD is none: undo()", x.undo(), STATE);
        x.mend(0, 0, 2);
        Check.is("undo()", x.undo(), 0);
        Check.is("undo() once more", x.undo(), STATE);
        Check.is("of(0, 0)", x.of(0, 0), 1);
        Check.is("count(5)", x.count(5), 0);
    }

    private static void undoLatestFirst() {
        Check.sentence("24: the latest first: how many may still be");
        FullerSquare x = Towns.squares(0, 0);
        x.sort(10, 1, 0);
        x.mend(0, 0, 2);
        x.mend(0, 1, 3);
        x.mend(1, 1, 4);
        x.mend(0, 0, 5);
        Check.is("count(5)", x.count(5), 4);
        Check.is("undo()", x.undo(), 3);
        Check.is("of(0, 0)", x.of(0, 0), 2);
        Check.is("undo()", x.undo(), 2);
        Check.is("of(1, 10)", x.of(1, 10), 999);
        Check.is("of(0, 10)", x.of(0, 10), 3);
        Check.is("undo()", x.undo(), 1);
        Check.is("of(0, 10)", x.of(0, 10), 999);
        Check.is("undo()", x.undo(), 0);
        Check.is("of(0, 0)", x.of(0, 0), 1);
    }

    private static void redoNone() {
        Check.sentence("25: STATE: none; how many may still be");
        FullerSquare x = mended(5);
        Check.is("redo()", x.redo(), STATE);
        isMended(x, 5);
        for (int i = 0; i < 6; i++) {
            x.undo();
        }
        isMended(x, 0);
        for (int i = 1; i <= 5; i++) {
            Check.is("redo()", x.redo(), 5 - i);
            isMended(x, i);
            Check.is("count(5)", x.count(5), i);
        }
        Check.is("redo()", x.redo(), STATE);
        isMended(x, 5);
        Check.is("new: redo()", new FullerSquare().redo(), STATE);
    }

    private static void redoBehindAnother() {
        Check.sentence("25: DONE AGAIN (as long as no other came behind)");
        FullerSquare x = mended(3);
        x.undo();
        x.undo();
        x.set(1, 3);
        x.square(1, 1);
        x.sort(10, 1, 0);
        x.run();
        x.mend(0, 0, -1);
        x.mend(9, 1, 1);
        Check.is("others that are no CHANGE: redo()", x.redo(), 1);
        isMended(x, 2);
        x.mend(0, 1, 7);
        Check.is("behind another one: redo()", x.redo(), STATE);
        Check.is("of(1, 10)", x.of(1, 10), 0);
        Check.is("undo()", x.undo(), 2);
        isMended(x, 2);
        Check.is("redo() of the other one", x.redo(), 0);
        Check.is("of(0, 10)", x.of(0, 10), 7);
    }

    private static void fortyAtMost() {
        Check.sentence("24: 40 at most are kept");
        for (int changes = 38; changes <= 85; changes += changes < 43 ? 1 : 42) {
            FullerSquare x = mended(changes);
            int kept = Math.min(40, changes);
            Check.is(changes + " changes: count(5)", x.count(5), kept);
            for (int i = kept - 1; i >= 0; i--) {
                Check.is(changes + " changes: undo()", x.undo(), i);
                isMended(x, changes - kept + i);
            }
            Check.is(changes + " changes: undo()", x.undo(), STATE);
            isMended(x, changes - kept);
        }
    }

    private static void fortyAgain() {
        Check.sentence("25: 40 at most are kept, to be DONE AGAIN too");
        FullerSquare x = mended(43);
        for (int i = 0; i < 40; i++) {
            x.undo();
        }
        isMended(x, 3);
        for (int i = 39; i >= 0; i--) {
            Check.is("redo()", x.redo(), i);
            isMended(x, 43 - i);
        }
        Check.is("redo()", x.redo(), STATE);
        Check.is("count(5)", x.count(5), 40);
        FullerSquare y = mended(43);
        for (int i = 0; i < 5; i++) {
            y.undo();
        }
        y.mend(0, 0, 100);
        Check.is("35 and one: count(5)", y.count(5), 36);
        for (int i = 0; i < 5; i++) {
            y.mend(0, 0, 101 + i);
        }
        Check.is("one too many: count(5)", y.count(5), 40);
        Check.is("redo()", y.redo(), STATE);
        for (int i = 0; i < 40; i++) {
            y.undo();
        }
        isMended(y, 4);
        Check.is("undo()", y.undo(), STATE);
    }

    private static void noChange() {
        Check.sentence("9, 24: what is as it was has not changed: it is no CHANGE");
        FullerSquare x = mended(40);
        Check.is("mend(0, 0, 40)", x.mend(0, 0, 40), 40);
        Check.is("mend(1, 1, 39)", x.mend(1, 1, 39), 39);
        Check.is("count(5)", x.count(5), 40);
        x.undo();
        x.mend(1, 1, 39);
        Check.is("redo()", x.redo(), 0);
        for (int i = 0; i < 40; i++) {
            x.undo();
        }
        isMended(x, 0);
    }

    private static long thought(FullerSquare x, int which) {
        switch (which) {
            case 0:
                return x.fewer(1);
            case 1:
                return x.often(3, 201);
            case 2:
                return x.sooner(7);
            case 3:
                return x.bell(0, 1);
            case 4:
                return x.paid(1);
            case 5:
                return x.lead(1);
            case 6:
                return x.serves(0);
            default:
                return x.run();
        }
    }

    private static FullerSquare town(int which) {
        FullerSquare x = which == 0 ? turnedIfSeen(4) : Towns.pair(which, 9);
        if (which > 0) {
            x.sort(90, 1, 3);
            x.sort(61, 11, 1);
            x.sort(51, 1, 0);
            Towns.law(x, "m>9?q;1");
            Towns.law(x, "h<8?q;0");
            x.set(0, 9 + which);
            x.set(1, which);
        }
        Towns.row(x, 0, Towns.BYTES, 0, 0, 0, 50, 0, 0, 0, 0, 0, 50);
        return x;
    }

    private static void thoughtsByThemselves() {
        Check.sentence("14 to 23: in thought, each by itself");
        for (int which = 0; which < 4; which++) {
            for (int first = 0; first < 8; first++) {
                for (int second = 0; second < 8; second++) {
                    FullerSquare x = town(which);
                    thought(x, first);
                    String told = "town " + which + ": thought " + second + " behind " + first;
                    Check.is(told, thought(x, second), thought(town(which), second));
                }
            }
        }
    }

    private static void thoughtsAreNotKept() {
        Check.sentence("14 to 23: in thought");
        FullerSquare x = turnedIfSeen(4);
        Towns.early(x, 0, 9);
        Towns.row(x, 1, Towns.SHORTS, 0, 0, 0);
        x.run();
        int[] told = new int[13];
        for (int what = 0; what < 13; what++) {
            told[what] = x.told(what);
        }
        int gone = x.led(5, 0, 3);
        x.last(1);
        x.flow(1);
        x.fewer(1);
        x.often(3, 200);
        x.sooner(9);
        x.bell(0, 0);
        x.paid(2);
        x.lead(1);
        x.serves(0);
        x.judge(1);
        for (int what = 0; what < 13; what++) {
            Check.is("told(" + what + ")", x.told(what), told[what]);
        }
        Check.is("led(5, 0, 3)", x.led(5, 0, 3), gone);
        for (int k = 0; k < 4; k++) {
            int[] laws = {0, 0, 1, 2};
            Check.is("of(" + k + ", 4)", x.of(k, 4), laws[k]);
            Check.is("of(" + k + ", 2)", x.of(k, 2), k == 1 ? 1 : 0);
        }
        Check.is("THE STROKE", x.set(0, 1), 20);
        Check.is("LAG", x.set(1, 1), 0);
        Check.is("EARLY", x.set(2, 1), 0);
        Check.is("count(5)", x.count(5), 0);
    }
}
