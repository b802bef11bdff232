/** Answers, of several the one named first: each promise's, in the order in which it names them. */
public final class OrderOfAnswersTest {
    private static final int BAD = Towns.BAD, NOT = Towns.NOT, FULL = Towns.FULL, STATE = Towns.STATE;

    public static void main(String[] args) {
        badAheadOfFull();
        sortsBadAheadOfOtherKind();
        lawFull();
        badAheadOfState();
        fewerBadAheadOfNot();
        fewerNotAheadOfState();
        bellInItsOrder();
        judgeInItsOrder();
        servesBadAheadOfState();
        keepBad();
        rowBadAheadOfSize();
        putInItsOrder();
        shiftInItsOrder();
        takenInItsOrder();
        Check.end();
    }

    private static void badAheadOfFull() {
        Check.sentence("2, 3, 4, 6, 26: BAD ahead of FULL");
        FullerSquare x = Towns.squares(0, 1, 2, 0);
        Check.is("square(9, 0)", x.square(9, 0), FULL);
        Check.is("square(1000, 0)", x.square(1000, 0), BAD);
        Check.is("square(9, 3)", x.square(9, 3), BAD);
        for (int i = 0; i < 12; i++) {
            x.way(1, 1, 1);
        }
        Check.is("way(1, 1, 1)", x.way(1, 1, 1), FULL);
        Check.is("way(11, 1, 1)", x.way(11, 1, 1), BAD);
        Check.is("way(1, 31, 1)", x.way(1, 31, 1), BAD);
        Check.is("way(1, 1, 100)", x.way(1, 1, 100), BAD);
        for (int i = 0; i < 8; i++) {
            x.sort(10, 1, 0);
        }
        Check.is("sort(10, 1, 0)", x.sort(10, 1, 0), FULL);
        Check.is("sort(12, 1, 0)", x.sort(12, 1, 0), BAD);
        Check.is("sort(2010, 1, 0)", x.sort(2010, 1, 0), BAD);
        Check.is("sort(10, 4, 0)", x.sort(10, 4, 0), BAD);
        Check.is("sort(10, 41, 0)", x.sort(10, 41, 0), BAD);
        Check.is("sort(10, 1, 4)", x.sort(10, 1, 4), BAD);
        Towns.feed(x, "q".repeat(120));
        Check.is("feed(0)", x.feed(0), FULL);
        Check.is("feed(-1)", x.feed(-1), BAD);
        Check.is("feed(256)", x.feed(256), BAD);
        for (int i = 0; i < 50; i++) {
            x.body(0);
        }
        Check.is("body(7)", x.body(7), FULL);
        Check.is("body(8)", x.body(8), BAD);
        Check.is("body(-1)", x.body(-1), BAD);
    }

    private static void sortsBadAheadOfOtherKind() {
        Check.sentence("5: BAD ahead of -12");
        FullerSquare x = Towns.squares(0);
        x.row(0, Towns.INTS, 3);
        Check.is("sorts(0, 0, 1)", x.sorts(0, 0, 1), -12);
        Check.is("sorts(0, 0, 0)", x.sorts(0, 0, 0), BAD);
        Check.is("sorts(0, 0, 9)", x.sorts(0, 0, 9), BAD);
        Check.is("sorts(6, 0, 1)", x.sorts(6, 0, 1), BAD);
        Check.is("sorts(1, -1, 0) of nothing", x.sorts(1, -1, 0), BAD);
        for (int i = 0; i < 8; i++) {
            x.sort(10, 1, 0);
        }
        Check.is("sorts(0, 0, 1) when full", x.sorts(0, 0, 1), -12);
    }

    private static void lawFull() {
        Check.sentence("7: FULL: 4 (it stays)");
        FullerSquare x = new FullerSquare();
        for (int i = 0; i < 4; i++) {
            Towns.law(x, "q");
        }
        Check.is("law() of nothing", x.law(), FULL);
        Towns.feed(x, "f");
        Check.is("law()", x.law(), FULL);
        Check.is("count(4)", x.count(4), 1);
    }

    private static void badAheadOfState() {
        Check.sentence("17, 18, 19: BAD ahead of STATE");
        FullerSquare x = new FullerSquare();
        Check.is("often(0, 10)", x.often(0, 10), STATE);
        Check.is("often(0, 0)", x.often(0, 0), BAD);
        Check.is("often(0, 13)", x.often(0, 13), BAD);
        Check.is("often(0, 210)", x.often(0, 210), BAD);
        Check.is("sooner(0)", x.sooner(0), STATE);
        Check.is("sooner(10)", x.sooner(10), BAD);
        Check.is("sooner(-1)", x.sooner(-1), BAD);
        Towns.early(x, 0, 0);
        Check.is("bell(0, 0)", x.bell(0, 0), STATE);
        Check.is("bell(0, 3)", x.bell(0, 3), BAD);
        Check.is("bell(6, 0)", x.bell(6, 0), BAD);
    }

    private static void fewerBadAheadOfNot() {
        Check.sentence("16: BAD ahead of NOT");
        FullerSquare x = new FullerSquare();
        Check.is("fewer(2)", x.fewer(2), BAD);
        Check.is("fewer(-1)", x.fewer(-1), BAD);
    }

    private static void fewerNotAheadOfState() {
        Check.sentence("16: NOT ahead of STATE: no SQUARES (1)");
        FullerSquare x = new FullerSquare();
        Check.is("fewer(0)", x.fewer(0), NOT);
        Check.is("fewer(1)", x.fewer(1), NOT);
    }

    private static void bellInItsOrder() {
        Check.sentence("19: BAD, -11, -12, -13, NOT, STATE");
        FullerSquare x = new FullerSquare();
        Check.is("BAD ahead of -11: a thing", x.bell(0, 3), BAD);
        Check.is("BAD ahead of -11: a SHELF", x.bell(6, 0), BAD);
        Check.is("-11 ahead of STATE", x.bell(0, 0), -11);
        x.row(0, Towns.SHORTS, 3);
        Check.is("BAD ahead of -12", x.bell(0, -1), BAD);
        Check.is("-12 ahead of -13", x.bell(0, 0), -12);
        x.row(0, Towns.BYTES, 9);
        Check.is("BAD ahead of -13", x.bell(0, 3), BAD);
        Check.is("-13 ahead of NOT", x.bell(0, 0), -13);
        x.put(0, 0, -1);
        Check.is("-13 ahead of NOT: one is not so", x.bell(0, 0), -13);
        x.row(0, Towns.BYTES, 10);
        Check.is("BAD ahead of NOT", x.bell(0, 3), BAD);
        Check.is("NOT ahead of STATE", x.bell(0, 0), NOT);
        x.put(0, 0, 100);
        Check.is("BAD ahead of STATE", x.bell(0, 3), BAD);
        Check.is("STATE", x.bell(0, 0), STATE);
        x.square(0, 0);
        Check.is("none of them", x.bell(0, 0), 100);
    }

    private static void judgeInItsOrder() {
        Check.sentence("23: BAD, -11, -12, -13, then JUDGED");
        FullerSquare x = Towns.squares(0, 0);
        Check.is("BAD", x.judge(6), BAD);
        Check.is("-11", x.judge(0), -11);
        x.row(0, Towns.BYTES, 0);
        Check.is("-12 ahead of -13", x.judge(0), -12);
        Towns.row(x, 0, Towns.SHORTS, 32767);
        Check.is("-13 ahead of a SQUARE", x.judge(0), -13);
        Towns.row(x, 0, Towns.SHORTS, 0, 1000);
        Check.is("a SQUARE", x.judge(0), 1);
    }

    private static void servesBadAheadOfState() {
        Check.sentence("22: BAD ahead of STATE");
        FullerSquare x = Towns.squares(0);
        Check.is("serves(0)", x.serves(0), BAD);
        x.sort(10, 1, 0);
        Check.is("serves(1)", x.serves(1), BAD);
        Check.is("serves(0)", x.serves(0), STATE);
    }

    private static void keepBad() {
        Check.sentence("29: BAD: a SHELF, a BODY");
        FullerSquare x = new FullerSquare();
        x.body(0);
        Check.is("keep(6, 1)", x.keep(6, 1), BAD);
        Check.is("keep(6, 0)", x.keep(6, 0), BAD);
        Check.is("keep(5, 1)", x.keep(5, 1), BAD);
        Check.is("keep(5, 0)", x.keep(5, 0), 1);
    }

    private static void rowBadAheadOfSize() {
        Check.sentence("30: BAD ahead of -14");
        FullerSquare x = new FullerSquare();
        Check.is("row(0, 5, -1)", x.row(0, 5, -1), BAD);
        Check.is("row(0, -1, -1)", x.row(0, -1, -1), BAD);
        Check.is("row(6, 0, -1)", x.row(6, 0, -1), BAD);
        Check.is("row(-1, 0, -1)", x.row(-1, 0, -1), BAD);
        Check.is("row(0, 0, -1)", x.row(0, 0, -1), -14);
        Check.is("row(0, 4, -1)", x.row(0, 4, -1), -14);
    }

    private static void putInItsOrder() {
        Check.sentence("31: BAD, -11, -12, -13");
        FullerSquare x = new FullerSquare();
        x.body(0);
        Check.is("BAD ahead of -13", x.put(6, -1, 0), BAD);
        Check.is("-11 ahead of -13", x.put(0, -1, 0), -11);
        x.keep(0, 0);
        Check.is("-12 ahead of -13", x.put(0, -1, 0), -12);
        x.row(0, 0, 1);
        Check.is("-13", x.put(0, -1, 0), -13);
        Check.is("-13", x.put(0, 1, 0), -13);
        Check.is("none of them", x.put(0, 0, 0), 1);
    }

    private static void shiftInItsOrder() {
        Check.sentence("33: BAD, -11 (either), -12, -13");
        FullerSquare x = new FullerSquare();
        x.body(0);
        Check.is("BAD ahead of -11", x.shift(0, 0, 6, 0, 0), BAD);
        Check.is("BAD ahead of -11", x.shift(-1, 0, 0, 0, 0), BAD);
        x.keep(0, 0);
        Check.is("BAD ahead of -12", x.shift(0, 0, 6, 0, 0), BAD);
        Check.is("-11 ahead of -12", x.shift(0, 0, 1, 0, 0), -11);
        Check.is("-11 ahead of -12", x.shift(1, 0, 0, 0, 0), -11);
        Check.is("-11 ahead of -13", x.shift(1, -1, 2, -1, -1), -11);
        x.row(1, 0, 1);
        x.row(2, 1, 1);
        x.row(3, 1, 1);
        Check.is("-12 ahead of -13: a BODY", x.shift(0, -1, 1, 0, 1), -12);
        Check.is("-12 ahead of -13: a BODY", x.shift(1, 0, 0, 0, -1), -12);
        Check.is("-12 ahead of -13: unlike sorts", x.shift(1, 0, 2, 0, -1), -12);
        Check.is("-12 ahead of -13: unlike sorts", x.shift(1, 0, 2, 0, 2), -12);
        Check.is("-13", x.shift(2, 0, 3, 0, -1), -13);
        Check.is("-13", x.shift(2, 0, 3, 0, 2), -13);
        Check.is("none of them", x.shift(2, 0, 3, 0, 1), 1);
    }

    private static void takenInItsOrder() {
        Check.sentence("34: BAD, -11, -12");
        FullerSquare x = new FullerSquare();
        x.body(0);
        Check.is("BAD ahead of -11: a KIND", x.taken(0, 8), BAD);
        Check.is("BAD ahead of -11: a SHELF", x.taken(6, 0), BAD);
        Check.is("-11", x.taken(0, 1), -11);
        x.row(0, 0, 0);
        Check.is("BAD ahead of -12", x.taken(0, -1), BAD);
        Check.is("-12", x.taken(0, 0), -12);
        x.keep(0, 0);
        Check.is("-12", x.taken(0, 1), -12);
        Check.is("none of them", x.taken(0, 0), 0);
    }
}
