/** The boundaries of RUNS: Terms 2, promises 11 to 13. A method for each sentence. */
public final class BoundariesOfRunsTest {
    private static final int STATE = Towns.STATE, VOID = Towns.VOID, MIN = Towns.MIN, MAX = Towns.MAX;

    public static void main(String[] args) {
        withoutSquares();
        noneAtFirst();
        latestIsKept();
        shortestAndLongest();
        longestOfTheFullest();
        holdsDoesNotMatterAtFirst();
        seenAsMinuteBegan();
        seenLate();
        seenLateAtFirst();
        lastRoom();
        roomBelowZero();
        squareBySquareSortBySort();
        dueTogether();
        waitOutside();
        roomInALaterMinute();
        whereAWayLeads();
        fewestMinutes();
        thenTheFirst();
        asManyAsMaySetOut();
        thatWayInThisMinute();
        sortBySortOnAWay();
        asManyAsAreThere();
        minutesTimesPace();
        onceMoreAtTheStroke();
        longestWays();
        earlyCounts();
        earlyZeroAtLeast();
        earlyOfEachSort();
        fullestOfLikeOnes();
        byNextGreatest();
        byWithoutAnother();
        doneIsNothing();
        ledMinutes();
        ledSquares();
        ledSorts();
        ledByItsOwnStroke();
        toldThings();
        toldCounts();
        toldAway();
        cameAfter();
        Check.end();
    }

    // ---- promise 11

    private static void withoutSquares() {
        Check.sentence("11: STATE: no SQUARES (without SQUARES nothing runs)");
        FullerSquare x = new FullerSquare();
        Towns.law(x, "0");
        Check.is("run()", x.run(), STATE);
        Check.is("told(0): none is kept", x.told(0), VOID);
        x.square(0, 2);
        Check.is("run() with one", x.run(), 2);
        Check.is("told(0)", x.told(0), 30);
    }

    private static void noneAtFirst() {
        Check.sentence("12, 13: VOID: there is none (none at first; all others are in thought)");
        FullerSquare x = Towns.pair(1, 9);
        x.sort(50, 1, 0);
        Towns.law(x, "q");
        Towns.early(x, 0, 0);
        Towns.row(x, 1, Towns.SHORTS, 0, 0);
        x.fewer(1);
        x.often(1, 10);
        x.sooner(0);
        x.bell(0, 0);
        x.paid(0);
        x.lead(0);
        x.serves(0);
        x.judge(1);
        for (int what = 0; what <= 11; what++) {
            Check.is("told(" + what + ")", x.told(what), VOID);
        }
        Check.is("led(0, 0, -1)", x.led(0, 0, -1), VOID);
        Check.is("led(0, 0, 0)", x.led(0, 0, 0), VOID);
        Check.is("led(30, 0, -1)", x.led(30, 0, -1), VOID);
    }

    private static void latestIsKept() {
        Check.sentence("11: THE RUN kept is the latest one of run()");
        FullerSquare x = Towns.pair(1, 1);
        x.sort(51, 1, 0);
        x.set(0, 2);
        x.run();
        x.set(0, 3);
        x.set(1, 9);
        x.set(2, 9);
        x.mend(0, 0, 9);
        x.mend(1, 1, 0);
        x.sooner(0);
        x.paid(1);
        x.lead(1);
        Check.is("told(0)", x.told(0), 2);
        Check.is("told(11)", x.told(11), 2);
        Check.is("led(2, 0, 0)", x.led(2, 0, 0), 3);
        x.run();
        Check.is("told(0)", x.told(0), 3);
        Check.is("led(3, 0, 0)", x.led(3, 0, 0), 6);
        Check.is("told(4)", x.told(4), 3);
    }

    private static void shortestAndLongest() {
        Check.sentence("11: MINUTES t = 0 .. S less 1 (1 .. 60)");
        int[] strokes = {1, 2, 59, 60};
        for (int stroke : strokes) {
            FullerSquare x = Towns.pair(1, 1);
            x.sort(2001, 1, 0);
            x.set(0, stroke);
            x.run();
            Check.is("told(0)", x.told(0), stroke);
            Check.is("one a MINUTE: told(11)", x.told(11), stroke);
            for (int t = 0; t < stroke; t++) {
                Check.is("led(" + t + ", 0, 0)", x.led(t, 0, 0), 199 - t);
                Check.is("led(" + t + ", 1, 0)", x.led(t, 1, 0), t);
            }
            Check.is("nobody goes at the stroke", x.led(stroke, 0, 0), 200 - stroke);
        }
    }

    private static void longestOfTheFullest() {
        Check.sentence("11: 4 SQUARES, 12 WAYS, 8 SORTS, 60 MINUTES");
        FullerSquare x = Towns.squares(0, 1, 2, 1);
        for (int w = 0; w < 12; w++) {
            x.way(w % 2 == 0 ? 23 : 1, 12 - w, 1 + w);
        }
        x.sort(2000, 1, 3);
        x.sort(30, 21, 0);
        for (int k = 2; k < 8; k++) {
            x.sort(10, 31, 1);
        }
        Towns.law(x, "f=3?3;q");
        Towns.law(x, "q");
        x.set(0, 60);
        x.set(2, 20);
        for (int lag = 0; lag <= 9; lag += 9) {
            x.set(1, lag);
            x.mend(0, 0, 200);
            Check.is("LAG " + lag + ": run()", x.run(), 0);
            Check.is("SQUARE 0 is the fullest: led(60, 2, 1)", x.led(60, 2, 1), 3);
            x.mend(0, 0, 5);
            Check.is("LAG " + lag + ": run()", x.run(), 1);
            Check.is("SQUARE 3 is the fullest: led(60, 3, 1)", x.led(60, 3, 1), 3);
            Check.is("told(13)", x.told(13), 9);
            Check.is("told(3)", x.told(3), 4);
            Check.is("told(4)", x.told(4), 0);
        }
    }

    private static void holdsDoesNotMatterAtFirst() {
        Check.sentence("11: all of them are there at first (HOLDS does not matter then)");
        FullerSquare x = new FullerSquare();
        x.square(0, 1);
        for (int k = 0; k < 8; k++) {
            x.sort(2000, 1, 0);
        }
        x.run();
        Check.is("told(10)", x.told(10), 1600);
        Check.is("told(4)", x.told(4), 0);
        Check.is("led(0, 0, -1)", x.led(0, 0, -1), 1600);
        Check.is("led(30, 0, 7)", x.led(30, 0, 7), 200);
    }

    // ---- SEEN

    private static void seenAsMinuteBegan() {
        Check.sentence("11: SEEN are how many were in each SQUARE as the MINUTE began");
        FullerSquare x = Towns.pair(1, 1);
        x.sort(11, 1, 3);
        x.sort(10, 11, 0);
        Towns.law(x, "h>1?0;q");
        x.run();
        Check.is("one comes in MINUTE 1: led(1, 1, 0)", x.led(1, 1, 0), 1);
        Check.is("not seen in it: led(1, 1, 1)", x.led(1, 1, 1), 1);
        Check.is("seen in the next one: led(2, 1, 1)", x.led(2, 1, 1), 0);
        FullerSquare y = Towns.pair(1, 9);
        y.sort(11, 1, 3);
        y.sort(10, 1, 0);
        Towns.law(y, "h=1?1;q");
        y.run();
        Check.is("who goes in MINUTE 0 is seen in it: led(0, 0, 1)", y.led(0, 0, 1), 1);
        Check.is("and no more in the next one: led(1, 0, 1)", y.led(1, 0, 1), 0);
    }

    /** Ten go from SQUARE 0, one a MINUTE; who looks on leaves SQUARE 2 when fewer than told are SEEN in SQUARE 0. */
    private static FullerSquare onlooker(int lag, String law) {
        FullerSquare x = Towns.squares(2, 1, 2, 2);
        x.way(1, 30, 1);
        x.way(23, 1, 1);
        x.sort(101, 1, 3);
        x.sort(10, 21, 0);
        Towns.law(x, law);
        x.set(1, lag);
        x.run();
        return x;
    }

    private static void seenLate() {
        Check.sentence("11: SEEN as MINUTE t less LAG began");
        for (int lag = 0; lag <= 9; lag++) {
            FullerSquare x = onlooker(lag, "f=0&o<8?3;q");
            Check.is("LAG " + lag + ": led before", x.led(2 + lag, 2, 1), 1);
            Check.is("LAG " + lag + ": led", x.led(3 + lag, 2, 1), 0);
            FullerSquare here = onlooker(lag, "m<3?3;q");
            Check.is("LAG " + lag + ": MINUTES are not late", here.led(28, 2, 1), 0);
            Check.is("LAG " + lag + ": not earlier", here.led(27, 2, 1), 1);
        }
    }

    private static void seenLateAtFirst() {
        Check.sentence("11: t less LAG (0 at least)");
        for (int lag = 0; lag <= 9; lag++) {
            FullerSquare x = onlooker(lag, "o=10?3;q");
            Check.is("LAG " + lag + ": SEEN as MINUTE 0 began", x.led(0, 2, 1), 0);
            FullerSquare y = onlooker(lag, "o<10?3;q");
            Check.is("LAG " + lag + ": led(lag)", y.led(lag, 2, 1), 1);
            Check.is("LAG " + lag + ": led(lag + 1)", y.led(lag + 1, 2, 1), 0);
        }
    }

    // ---- ARRIVE

    private static void lastRoom() {
        Check.sentence("11: as many as there is room for (HOLDS less all who are there)");
        for (int holds = 0; holds <= 8; holds++) {
            FullerSquare x = Towns.squares(2, 1);
            x.way(1, 1, 9);
            x.mend(1, 1, holds);
            int first = Math.min(2, holds);
            x.sort(51, 1, 3);
            x.sort(10 * first, 11, 3);
            x.set(0, 1);
            x.run();
            int come = Math.min(5, holds - first);
            Check.is("HOLDS " + holds + ": led(1, 1, 0)", x.led(1, 1, 0), come);
            Check.is("HOLDS " + holds + ": told(4)", x.told(4), 5 - come);
        }
        FullerSquare full = Towns.pair(1, 99);
        for (int k = 0; k < 8; k++) {
            full.sort(2001, k < 5 ? 1 : 11, 3);
        }
        full.set(0, 60);
        full.run();
        Check.is("999 and no more: told(11)", full.told(11), 999);
        Check.is("told(4)", full.told(4), 1600 - 999);
    }

    private static void roomBelowZero() {
        Check.sentence("11: no room where more are than it HOLDS");
        FullerSquare x = Towns.pair(1, 9);
        x.mend(1, 1, 3);
        x.sort(51, 1, 0);
        x.sort(71, 11, 0);
        x.run();
        Check.is("led(30, 1, 0)", x.led(30, 1, 0), 0);
        Check.is("led(30, 1, 1): nobody is sent out", x.led(30, 1, 1), 7);
        Check.is("told(4)", x.told(4), 5);
    }

    private static void squareBySquareSortBySort() {
        Check.sentence("11: ARRIVE: SQUARE by SQUARE, SORT by SORT");
        FullerSquare x = Towns.squares(2, 1, 2);
        x.mend(1, 1, 4);
        x.way(1, 1, 9);
        x.way(21, 1, 9);
        x.sort(31, 21, 3);
        x.sort(31, 1, 3);
        x.sort(31, 21, 3);
        x.set(0, 1);
        x.run();
        Check.is("the first SORT: led(1, 1, 0)", x.led(1, 1, 0), 3);
        Check.is("the second SORT: led(1, 1, 1)", x.led(1, 1, 1), 1);
        Check.is("the third SORT: led(1, 1, 2)", x.led(1, 1, 2), 0);
        Check.is("told(4)", x.told(4), 5);
    }

    private static void dueTogether() {
        Check.sentence("11: those who are due by t: from several SQUARES, from several MINUTES");
        FullerSquare x = Towns.squares(2, 2, 1);
        x.way(1, 1, 3);
        x.way(2, 1, 9);
        x.way(12, 1, 9);
        x.sort(70, 1, 0);
        Towns.law(x, "q=0&m=30?1;2");
        x.run();
        Check.is("from MINUTE 0 in SQUARE 1: led(0, 0, 0)", x.led(0, 0, 0), 4);
        Check.is("all on WAYS: led(1, 2, -1)", x.led(1, 2, -1), 0);
        Check.is("out of 0 and 1: led(2, 2, 0)", x.led(2, 2, 0), 7);
        Check.is("told(4)", x.told(4), 0);
        FullerSquare late = Towns.squares(2, 2, 1);
        late.way(1, 1, 3);
        late.way(2, 2, 9);
        late.way(12, 1, 9);
        late.sort(70, 1, 0);
        Towns.law(late, "m=4?1;m=3&q=1?1;2");
        late.set(0, 4);
        late.run();
        Check.is("out of 0 in MINUTE 1: led(1, 0, 0)", late.led(1, 0, 0), 0);
        Check.is("still in 1: led(1, 1, 0)", late.led(1, 1, 0), 3);
        Check.is("out of 1 in MINUTE 2: led(2, 1, 0)", late.led(2, 1, 0), 0);
        Check.is("all are due in MINUTE 3: led(2, 2, 0)", late.led(2, 2, 0), 0);
        Check.is("led(3, 2, 0)", late.led(3, 2, 0), 7);
    }

    private static void waitOutside() {
        Check.sentence("11: the others wait outside (those who could not come in yet, too)");
        FullerSquare x = Towns.pair(1, 2);
        x.mend(1, 1, 3);
        x.sort(51, 1, 0);
        x.run();
        int[] inside = {0, 2, 3, 3};
        for (int t = 0; t < 4; t++) {
            Check.is("led(" + t + ", 1, 0)", x.led(t, 1, 0), inside[t]);
        }
        Check.is("led(30, 1, -1)", x.led(30, 1, -1), 3);
        Check.is("outside at the stroke: told(4)", x.told(4), 2);
    }

    private static void roomInALaterMinute() {
        Check.sentence("11: till there is room in a later MINUTE");
        FullerSquare x = Towns.squares(1, 2, 0);
        x.mend(1, 1, 1);
        x.way(1, 1, 9);
        x.way(12, 1, 9);
        x.sort(10, 3, 1);
        x.sort(10, 1, 1);
        x.sort(10, 11, 0);
        Towns.law(x, "m=26?2;q");
        Towns.law(x, "q=0?1;q");
        x.run();
        Check.is("waits from MINUTE 1 on: led(3, 1, 1)", x.led(3, 1, 1), 0);
        Check.is("who is there goes in MINUTE 4: led(4, 1, 2)", x.led(4, 1, 2), 0);
        Check.is("room in MINUTE 5, SORT by SORT: led(5, 1, 0)", x.led(5, 1, 0), 1);
        Check.is("led(5, 1, 1)", x.led(5, 1, 1), 0);
        Check.is("not in MINUTE 4 itself: led(4, 1, -1)", x.led(4, 1, -1), 0);
        x.mend(0, 0, 0);
        x.run();
        Check.is("without the first SORT: led(4, 1, 1)", x.led(4, 1, 1), 0);
        Check.is("led(5, 1, 1)", x.led(5, 1, 1), 1);
        Check.is("told(4)", x.told(4), 0);
    }

    // ---- GO

    private static void whereAWayLeads() {
        Check.sentence("11: another SQUARE to which a WAY leads");
        int[] gives = {0, 1, 2, 3, 4};
        for (int to : gives) {
            FullerSquare x = Towns.squares(2, 2, 2, 2);
            x.way(1, 1, 9);
            x.way(12, 1, 9);
            x.way(30, 1, 9);
            x.sort(10, 1, 0);
            Towns.law(x, "q=0?" + to + ";q");
            x.run();
            boolean goes = to == 1 || to == 3;
            Check.is("to " + to + ": led(0, 0, 0)", x.led(0, 0, 0), goes ? 0 : 1);
            Check.is("to " + to + ": led(1, " + to % 4 + ", 0)", x.led(1, to % 4, 0), goes || to % 4 == 0 ? 1 : 0);
        }
    }

    private static void fewestMinutes() {
        Check.sentence("11: of several WAYS that with the fewest MINUTES, then the first");
        for (int order = 0; order < 27; order++) {
            int[] minutes = {1 + order % 3, 1 + order / 3 % 3, 1 + order / 9};
            FullerSquare x = Towns.squares(2, 1);
            int best = 0;
            for (int w = 0; w < 3; w++) {
                x.way(w == 1 ? 10 : 1, minutes[w], w + 2);
                best = minutes[w] < minutes[best] ? w : best;
            }
            x.sort(91, 1, 0);
            x.sort(90, 11, 0);
            Towns.law(x, "m=30?1-q;q");
            x.run();
            String told = minutes[0] + ", " + minutes[1] + ", " + minutes[2] + " MINUTES: ";
            Check.is(told + "led(0, 0, 0)", x.led(0, 0, 0), 9 - (best + 2));
            Check.is(told + "led(0, 1, 1)", x.led(0, 1, 1), 9 - (best + 2));
            Check.is(told + "not yet there", x.led(minutes[best] - 1, 1, 0), 0);
            Check.is(told + "there", x.led(minutes[best], 1, 0), best + 2);
        }
    }

    private static void thenTheFirst() {
        Check.sentence("11: of several WAYS then the first");
        FullerSquare x = Towns.squares(2, 1);
        x.way(1, 3, 99);
        x.way(10, 2, 3);
        x.way(1, 2, 4);
        x.way(1, 2, 5);
        x.sort(91, 1, 0);
        x.sort(90, 11, 0);
        Towns.law(x, "1-q");
        x.set(0, 2);
        x.run();
        Check.is("led(0, 0, 0)", x.led(0, 0, 0), 6);
        Check.is("the other way: led(0, 1, 1)", x.led(0, 1, 1), 6);
    }

    private static void asManyAsMaySetOut() {
        Check.sentence("11: as may still set out on that WAY in this MINUTE (MOST, 1 .. 99)");
        int[] mosts = {1, 2, 98, 99};
        for (int most : mosts) {
            FullerSquare x = Towns.pair(1, most);
            x.sort(2001, 1, 0);
            x.run();
            for (int t = 0; t < 4; t++) {
                Check.is("MOST " + most + ": led(" + t + ", 0, 0)", x.led(t, 0, 0), Math.max(0, 200 - most * (t + 1)));
            }
        }
    }

    private static void thatWayInThisMinute() {
        Check.sentence("11: MOST: how many a minute may set out on it, each way");
        FullerSquare x = Towns.pair(1, 4);
        x.sort(91, 1, 3);
        x.sort(90, 11, 3);
        x.run();
        Check.is("one way: led(0, 0, 0)", x.led(0, 0, 0), 5);
        Check.is("the other way: led(0, 1, 1)", x.led(0, 1, 1), 5);
        Check.is("the next MINUTE: led(1, 0, 0)", x.led(1, 0, 0), 1);
        Check.is("led(1, 1, 1)", x.led(1, 1, 1), 1);
        Check.is("led(2, 0, 0)", x.led(2, 0, 0), 0);
    }

    private static void sortBySortOnAWay() {
        Check.sentence("11: GO: SORT by SORT; as may still set out");
        FullerSquare x = Towns.pair(1, 5);
        x.sort(31, 1, 0);
        x.sort(31, 1, 0);
        x.sort(31, 1, 0);
        x.run();
        int[] left = {0, 1, 3};
        for (int k = 0; k < 3; k++) {
            Check.is("led(0, 0, " + k + ")", x.led(0, 0, k), left[k]);
            Check.is("led(1, 0, " + k + ")", x.led(1, 0, k), 0);
        }
    }

    private static void asManyAsAreThere() {
        Check.sentence("11: so many set out as are there");
        for (int many = 0; many <= 5; many++) {
            FullerSquare x = Towns.pair(1, 4);
            x.sort(10 * many + 1, 1, 0);
            x.set(0, 1);
            x.run();
            Check.is(many + ": led(0, 0, 0)", x.led(0, 0, 0), Math.max(0, many - 4));
            Check.is(many + ": led(1, 1, 0)", x.led(1, 1, 0), Math.min(4, many));
        }
    }

    private static void minutesTimesPace() {
        Check.sentence("11: they are due at t and MINUTES times PACE");
        for (int pace = 1; pace <= 3; pace++) {
            for (int minutes = 1; minutes <= 5; minutes++) {
                FullerSquare x = Towns.pair(minutes, 1);
                x.sort(21, pace, 0);
                x.run();
                int due = minutes * pace;
                Check.is(minutes + " by " + pace + ", ahead", x.led(due - 1, 1, 0), 0);
                Check.is(minutes + " by " + pace, x.led(due, 1, 0), 1);
                Check.is(minutes + " by " + pace + ", the second", x.led(due + 1, 1, 0), 2);
            }
        }
    }

    private static void onceMoreAtTheStroke() {
        Check.sentence("11: at S itself they ARRIVE once more");
        for (int stroke = 3; stroke <= 7; stroke++) {
            FullerSquare x = Towns.pair(5, 9);
            x.sort(31, 1, 0);
            x.set(0, stroke);
            x.run();
            Check.is("S = " + stroke + ": told(11)", x.told(11), stroke < 5 ? 0 : 3);
            Check.is("S = " + stroke + ": told(4)", x.told(4), stroke < 5 ? 3 : 0);
            Check.is("S = " + stroke + ": run()", x.told(2), stroke < 5 ? 0 : 1);
            Check.is("S = " + stroke + ": not ahead", x.led(stroke - 1, 1, 0), stroke <= 5 ? 0 : 3);
        }
    }

    private static void longestWays() {
        Check.sentence("11: 30 MINUTES at PACE 1 .. 3, THE STROKE 60");
        for (int pace = 1; pace <= 3; pace++) {
            FullerSquare x = Towns.pair(30, 99);
            x.sort(2001, pace, 0);
            x.set(0, 60);
            x.run();
            int[] due = {200, 99, 0};
            Check.is("PACE " + pace + ": told(11)", x.told(11), due[pace - 1]);
            Check.is("PACE " + pace + ": told(4)", x.told(4), 200 - due[pace - 1]);
            x.set(0, 59);
            x.run();
            Check.is("PACE " + pace + ", 59: told(11)", x.told(11), pace == 1 ? 200 : 0);
        }
    }

    // ---- THE STROKE counts

    private static void earlyCounts() {
        Check.sentence("11: the least number at any of: now, and as MINUTES S less EARLY to S less 1 ended");
        for (int minutes = 1; minutes <= 24; minutes++) {
            FullerSquare x = Towns.pair(minutes, 9);
            x.sort(31, 1, 0);
            x.set(0, 24);
            for (int early = 0; early <= 20; early += 4) {
                x.set(2, early);
                x.run();
                Check.is("there from " + minutes + ", EARLY " + early, x.told(11), minutes <= 24 - early ? 3 : 0);
                Check.is("all the same at the stroke", x.led(24, 1, 0), 3);
            }
        }
        FullerSquare x = Towns.pair(1, 9);
        x.sort(30, 11, 0);
        Towns.law(x, "m=5?0;q");
        x.set(0, 20);
        for (int early = 0; early <= 20; early++) {
            x.set(2, early);
            x.run();
            Check.is("gone in MINUTE 15, EARLY " + early + ": told(11)", x.told(11), 0);
            Check.is("there from MINUTE 16, EARLY " + early + ": told(10)", x.told(10), early <= 4 ? 3 : 0);
        }
    }

    private static void earlyZeroAtLeast() {
        Check.sentence("11: S less EARLY (0 at least)");
        for (int stroke = 1; stroke <= 22; stroke++) {
            FullerSquare x = Towns.pair(1, 9);
            x.sort(31, 1, 0);
            x.sort(20, 1, 0);
            x.set(0, stroke);
            x.set(2, 20);
            x.run();
            Check.is("S = " + stroke + ", who stay: told(10)", x.told(10), 2);
            Check.is("S = " + stroke + ", who came in MINUTE 1: told(11)", x.told(11), stroke >= 21 ? 3 : 0);
        }
    }

    private static void earlyOfEachSort() {
        Check.sentence("11: THE STROKE counts of each SORT in each SQUARE the least");
        FullerSquare x = Towns.pair(1, 9);
        x.sort(21, 3, 3);
        x.sort(20, 11, 0);
        Towns.law(x, "m=7?0;q");
        x.set(0, 10);
        x.run();
        Check.is("one SORT comes: led(3, 1, 0)", x.led(3, 1, 0), 2);
        Check.is("as the other goes: led(3, 1, 1)", x.led(3, 1, 1), 0);
        Check.is("two all the time: led(2, 1, -1)", x.led(2, 1, -1), 2);
        Check.is("led(3, 1, -1)", x.led(3, 1, -1), 2);
        x.set(2, 7);
        x.run();
        Check.is("EARLY 7: told(11)", x.told(11), 2);
        x.set(2, 8);
        x.run();
        Check.is("EARLY 8: none of either: told(11)", x.told(11), 0);
    }

    private static FullerSquare standing(int... many) {
        int[] fors = {0, 1, 2, 1};
        FullerSquare x = new FullerSquare();
        for (int i = 0; i < many.length; i++) {
            x.square(999, fors[i]);
        }
        for (int i = 0; i < many.length; i++) {
            x.sort(10 * many[i], 10 * i + 1, 3);
        }
        x.run();
        return x;
    }

    private static void fullestOfLikeOnes() {
        Check.sentence("11: FULLEST: the greatest count (of like ones the least)");
        int[][] manies = {{0, 0, 0, 0}, {4, 4, 4, 4}, {3, 4, 4, 4}, {3, 3, 4, 4}, {3, 3, 3, 4}, {4, 3, 3, 4}, {3, 4, 3, 4},
            {4, 4, 3, 3}, {0, 0, 1, 0}, {200, 199, 200, 200}};
        int[] due = {0, 0, 1, 2, 3, 0, 1, 0, 2, 0};
        int[] fors = {0, 1, 2, 1};
        for (int i = 0; i < manies.length; i++) {
            FullerSquare x = standing(manies[i]);
            Check.is("town " + i + ": told(1)", x.told(1), due[i]);
            Check.is("town " + i + ": told(2)", x.told(2), fors[due[i]]);
        }
    }

    private static void byNextGreatest() {
        Check.sentence("11: BY: its count less the next greatest one (of another SQUARE)");
        int[][] manies = {{0, 0, 0, 0}, {4, 4, 0, 0}, {9, 2, 5, 4}, {2, 9, 5, 4}, {5, 4, 2, 9}, {4, 5, 9, 9}, {7, 0, 0, 0},
            {0, 0, 0, 7}, {200, 0, 199, 1}, {1, 0}, {0, 1}, {3, 8}};
        int[] due = {0, 0, 4, 4, 4, 0, 7, 7, 1, 1, 1, 5};
        for (int i = 0; i < manies.length; i++) {
            Check.is("town " + i + ": told(3)", standing(manies[i]).told(3), due[i]);
        }
    }

    private static void byWithoutAnother() {
        Check.sentence("11: BY: its count, if there is no other SQUARE");
        Check.is("nobody: told(3)", standing(0).told(3), 0);
        Check.is("one: told(3)", standing(1).told(3), 1);
        Check.is("200: told(3)", standing(200).told(3), 200);
    }

    private static void doneIsNothing() {
        Check.sentence("11: FOR 2: nothing");
        FullerSquare x = Towns.squares(2, 2);
        x.way(1, 1, 9);
        x.sort(50, 1, 0);
        x.sort(61, 11, 0);
        Check.is("run()", x.run(), 2);
        Check.is("nobody goes: led(30, 0, 0)", x.led(30, 0, 0), 5);
        Check.is("led(30, 1, 1)", x.led(30, 1, 1), 6);
    }

    // ---- promises 12 and 13

    private static FullerSquare ran(int stroke) {
        FullerSquare x = Towns.pair(2, 1);
        x.sort(31, 1, 0);
        x.sort(40, 11, 3);
        x.set(0, stroke);
        Towns.law(x, "1");
        for (int i = 0; i < 3; i++) {
            Towns.law(x, "q");
        }
        x.run();
        return x;
    }

    private static void ledMinutes() {
        Check.sentence("12: MINUTE t (0 .. S less 1) ended, or at the stroke (t = S)");
        int[] strokes = {1, 4, 60};
        for (int stroke : strokes) {
            FullerSquare x = ran(stroke);
            int[] none = {MIN, -60, -2, -1, stroke + 1, stroke + 2, 61, 120, MAX};
            for (int t : none) {
                Check.is("S = " + stroke + ": led(" + t + ", 0, 0)", x.led(t, 0, 0), VOID);
                Check.is("S = " + stroke + ": led(" + t + ", 1, -1)", x.led(t, 1, -1), VOID);
            }
            for (int t = 0; t <= stroke; t++) {
                int came = Math.max(0, Math.min(3, t - 1));
                int gone = Math.min(3, t == stroke ? t : t + 1);
                Check.is("S = " + stroke + ": led(" + t + ", 0, 0)", x.led(t, 0, 0), 3 - gone);
                Check.is("S = " + stroke + ": led(" + t + ", 1, 0)", x.led(t, 1, 0), came);
                Check.is("S = " + stroke + ": led(" + t + ", 1, -1)", x.led(t, 1, -1), came + 4);
            }
        }
    }

    private static void ledSquares() {
        Check.sentence("12: in a SQUARE; VOID: BAD");
        FullerSquare x = ran(9);
        int[] none = {MIN, -2, -1, 2, 3, 4, 8, MAX};
        for (int square : none) {
            Check.is("led(0, " + square + ", 0)", x.led(0, square, 0), VOID);
            Check.is("led(9, " + square + ", -1)", x.led(9, square, -1), VOID);
        }
        FullerSquare y = standing(1, 2, 3, 4);
        for (int square = 0; square < 4; square++) {
            Check.is("led(30, " + square + ", -1)", y.led(30, square, -1), square + 1);
        }
        Check.is("led(30, 4, -1)", y.led(30, 4, -1), VOID);
        FullerSquare z = Towns.squares(0, 1, 2, 1);
        for (int k = 0; k < 8; k++) {
            z.sort(10 << k % 7, 10 * (3 - k % 4) + 1, 3);
        }
        z.run();
        int[] due = {8 + 1, 4 + 64, 2 + 32, 1 + 16};
        for (int square = 0; square < 4; square++) {
            Check.is("of all: led(30, " + square + ", -1)", z.led(30, square, -1), due[square]);
        }
    }

    private static void ledSorts() {
        Check.sentence("12: of a SORT, or (sort -1) of all; VOID: BAD");
        FullerSquare x = ran(9);
        int[] none = {MIN, -3, -2, 2, 3, 7, 8, MAX};
        for (int sort : none) {
            Check.is("led(0, 0, " + sort + ")", x.led(0, 0, sort), VOID);
        }
        FullerSquare y = Towns.squares(0);
        for (int k = 0; k < 8; k++) {
            y.sort(10 * k, 1, 0);
        }
        y.run();
        for (int k = 0; k < 8; k++) {
            Check.is("led(3, 0, " + k + ")", y.led(3, 0, k), k);
        }
        Check.is("led(3, 0, -1)", y.led(3, 0, -1), 28);
        Check.is("led(3, 0, 8)", y.led(3, 0, 8), VOID);
        FullerSquare z = Towns.squares(0);
        z.run();
        Check.is("nobody: led(0, 0, -1)", z.led(0, 0, -1), 0);
        Check.is("nobody: led(0, 0, 0)", z.led(0, 0, 0), VOID);
    }

    private static void ledByItsOwnStroke() {
        Check.sentence("12: S is that of THE RUN");
        FullerSquare x = ran(9);
        x.set(0, 4);
        Check.is("led(9, 1, 0)", x.led(9, 1, 0), 3);
        Check.is("told(0)", x.told(0), 9);
        x.set(0, 60);
        Check.is("led(10, 1, 0)", x.led(10, 1, 0), VOID);
        x.run();
        Check.is("led(60, 1, 0)", x.led(60, 1, 0), 3);
        x.set(0, 1);
        x.run();
        Check.is("led(2, 1, 0) of a shorter RUN", x.led(2, 1, 0), VOID);
    }

    private static void toldThings() {
        Check.sentence("13: 0 S, 1 FULLEST, 2 DONE, 3 BY, 4; VOID: BAD");
        FullerSquare x = ran(4);
        int[] due = {4, 1, 1, 7, 0};
        Check.is("three came, four were there: told(11)", x.told(11), 7);
        for (int what = 0; what <= 4; what++) {
            Check.is("told(" + what + ")", x.told(what), due[what]);
        }
        int[] none = {MIN, -10, -1, 5, 6, 7, 8, 9, 12, 13, 14, 20, MAX};
        for (int what : none) {
            Check.is("told(" + what + ")", x.told(what), VOID);
        }
    }

    private static void toldCounts() {
        Check.sentence("13: 10 and a SQUARE: its count");
        for (int squares = 1; squares <= 4; squares++) {
            int[] many = new int[squares];
            for (int i = 0; i < squares; i++) {
                many[i] = 7 + 3 * i;
            }
            FullerSquare x = standing(many);
            Check.is(squares + ": told(9)", x.told(9), VOID);
            for (int i = 0; i < 5; i++) {
                Check.is(squares + ": told(" + (10 + i) + ")", x.told(10 + i), i < squares ? many[i] : VOID);
            }
        }
    }

    private static void toldAway() {
        Check.sentence("13: 4 how many are on WAYS or outside at the stroke");
        FullerSquare x = Towns.pair(3, 2);
        x.mend(1, 1, 3);
        x.sort(91, 1, 0);
        int[] strokes = {1, 2, 3, 4, 5, 8, 60};
        int[] away = {2, 4, 4, 5, 6, 6, 6};
        for (int i = 0; i < strokes.length; i++) {
            x.set(0, strokes[i]);
            x.run();
            Check.is("S = " + strokes[i] + ": told(4)", x.told(4), away[i]);
        }
        x.mend(0, 0, 0);
        x.run();
        Check.is("nobody: told(4)", x.told(4), 0);
    }

    private static void cameAfter() {
        Check.sentence("12, 13: what came after THE RUN is none of it");
        FullerSquare x = new FullerSquare();
        x.square(9, 0);
        x.run();
        for (int square = 1; square < 4; square++) {
            x.square(9, 1);
            Check.is("told(1" + square + ")", x.told(10 + square), VOID);
            Check.is("led(0, " + square + ", -1)", x.led(0, square, -1), VOID);
        }
        for (int k = 0; k < 8; k++) {
            x.sort(10, 11, 3);
            Check.is("led(30, 0, " + k + ")", x.led(30, 0, k), VOID);
        }
        Check.is("told(10) as it was", x.told(10), 0);
        x.run();
        Check.is("told(13)", x.told(13), 0);
        Check.is("told(11)", x.told(11), 8);
        Check.is("led(30, 1, 7)", x.led(30, 1, 7), 1);
    }
}
