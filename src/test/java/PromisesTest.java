/** Each promise by itself: ordinary calls, the edges that the document names, wrong ones. */
public final class PromisesTest {
    private static final int BAD = -1, NOT = -2, FULL = -3, STATE = -5, VOID = -2000000000;
    private static final int MIN = Integer.MIN_VALUE, MAX = Integer.MAX_VALUE;
    private static final long NO_ELEMENT = Long.MIN_VALUE;

    private static int promise = 0;

    public static void main(String[] args) {
        newObject();
        squares();
        ways();
        sorts();
        sortsFromRows();
        tape();
        laws();
        grammar();
        settings();
        mends();
        fields();
        runs();
        lawsInRuns();
        namesInLaws();
        roomAndWays();
        ledMinutes();
        toldRuns();
        keptRun();
        cameLater();
        lasts();
        flows();
        fewers();
        oftens();
        sooners();
        bells();
        paids();
        leads();
        servings();
        judgements();
        changes();
        noChanges();
        bodies();
        acts();
        traces();
        shelves();
        rows();
        shifts();
        takens();
        counts();
        Check.end();
    }

    private static void due(String call, long got, long want) {
        Check.due("promise " + promise + ": " + call, got, want);
    }

    // ---- helpers

    private static int feedAll(FullerSquare x, String text) {
        for (int i = 0; i < text.length(); i++) {
            x.feed(text.charAt(i));
        }
        return x.law();
    }

    private static void putAll(FullerSquare x, int shelf, int sort, long... elements) {
        x.row(shelf, sort, elements.length);
        for (int i = 0; i < elements.length; i++) {
            x.put(shelf, i, elements[i]);
        }
    }

    /** Two wide SQUARES, FOR 0 and 1, and one WAY of 2 MINUTES between them. */
    private static FullerSquare pair(int most) {
        FullerSquare x = new FullerSquare();
        x.square(999, 0);
        x.square(999, 1);
        x.way(1, 2, most);
        return x;
    }

    /** What a text gives by what is seen: read from where a lonely SORT goes, among four SQUARES. */
    private static int worked(String text) {
        FullerSquare x = new FullerSquare();
        for (int i = 0; i < 4; i++) {
            x.square(999, 2);
        }
        x.way(30, 1, 99);
        x.way(31, 1, 99);
        x.way(32, 1, 99);
        x.sort(10, 31, 0);
        x.set(0, 1);
        int number = feedAll(x, text);
        if (number != 0) {
            return number;
        }
        x.run();
        return x.told(1);
    }

    private static void gives(String text, int want) {
        due(text, worked(text), want);
    }

    // ---- the town

    private static void newObject() {
        promise = 1;
        FullerSquare x = new FullerSquare();
        for (int what = 0; what <= 7; what++) {
            due("count(" + what + ")", x.count(what), 0);
        }
        due("run()", x.run(), STATE);
        due("told(0)", x.told(0), VOID);
        due("undo()", x.undo(), STATE);
        due("redo()", x.redo(), STATE);
        due("set(0, 30)", x.set(0, 30), 30);
        due("set(1, 0)", x.set(1, 0), 0);
        due("set(2, 0)", x.set(2, 0), 0);
        for (int shelf = 0; shelf < 6; shelf++) {
            due("put on shelf " + shelf, x.put(shelf, 0, 1), -11);
        }
        FullerSquare other = new FullerSquare();
        x.square(1, 1);
        due("another object", other.count(0), 0);
    }

    private static void squares() {
        promise = 2;
        FullerSquare x = new FullerSquare();
        due("square(-1, 0)", x.square(-1, 0), BAD);
        due("square(1000, 0)", x.square(1000, 0), BAD);
        due("square(0, -1)", x.square(0, -1), BAD);
        due("square(0, 3)", x.square(0, 3), BAD);
        due("square(MIN, MAX)", x.square(MIN, MAX), BAD);
        due("square(0, 0)", x.square(0, 0), 0);
        due("square(999, 2)", x.square(999, 2), 1);
        due("square(7, 1)", x.square(7, 1), 2);
        due("square(8, 1)", x.square(8, 1), 3);
        due("square(8, 1)", x.square(8, 1), FULL);
        due("square(1000, 1)", x.square(1000, 1), BAD);
        due("count(0)", x.count(0), 4);
    }

    private static void ways() {
        promise = 3;
        FullerSquare x = new FullerSquare();
        due("way(1, 1, 1)", x.way(1, 1, 1), BAD);
        x.square(1, 0);
        x.square(1, 0);
        x.square(1, 0);
        due("way(3, 1, 1)", x.way(3, 1, 1), BAD);
        due("way(30, 1, 1)", x.way(30, 1, 1), BAD);
        due("way(11, 1, 1)", x.way(11, 1, 1), BAD);
        due("way(-1, 1, 1)", x.way(-1, 1, 1), BAD);
        due("way(-10, 1, 1)", x.way(-10, 1, 1), BAD);
        due("way(MIN, 1, 1)", x.way(MIN, 1, 1), BAD);
        due("way(101, 1, 1)", x.way(101, 1, 1), BAD);
        due("way(1, 0, 1)", x.way(1, 0, 1), BAD);
        due("way(1, 31, 1)", x.way(1, 31, 1), BAD);
        due("way(1, 1, 0)", x.way(1, 1, 0), BAD);
        due("way(1, 1, 100)", x.way(1, 1, 100), BAD);
        due("way(21, 30, 99)", x.way(21, 30, 99), 0);
        for (int i = 1; i < 12; i++) {
            due("way(2, 1, 1)", x.way(2, 1, 1), i);
        }
        due("way(2, 1, 1)", x.way(2, 1, 1), FULL);
        due("way(2, 0, 1)", x.way(2, 0, 1), BAD);
        due("of(0, 20)", x.of(0, 20), 2);
        due("of(0, 21)", x.of(0, 21), 1);
    }

    private static void sorts() {
        promise = 4;
        FullerSquare x = new FullerSquare();
        due("sort(0, 1, 0)", x.sort(0, 1, 0), BAD);
        x.square(0, 0);
        due("sort(-1, 1, 0)", x.sort(-1, 1, 0), BAD);
        due("sort(-10, 1, 0)", x.sort(-10, 1, 0), BAD);
        due("sort(2, 1, 0)", x.sort(2, 1, 0), BAD);
        due("sort(2010, 1, 0)", x.sort(2010, 1, 0), BAD);
        due("sort(2002, 1, 0)", x.sort(2002, 1, 0), BAD);
        due("sort(0, 0, 0)", x.sort(0, 0, 0), BAD);
        due("sort(0, 4, 0)", x.sort(0, 4, 0), BAD);
        due("sort(0, -1, 0)", x.sort(0, -1, 0), BAD);
        due("sort(0, 11, 0)", x.sort(0, 11, 0), BAD);
        due("sort(0, MIN, 0)", x.sort(0, MIN, 0), BAD);
        due("sort(MAX, MAX, MAX)", x.sort(MAX, MAX, MAX), BAD);
        due("sort(0, 1, -1)", x.sort(0, 1, -1), BAD);
        due("sort(0, 1, 4)", x.sort(0, 1, 4), BAD);
        x.square(0, 0);
        due("sort(0, 10, 0)", x.sort(0, 10, 0), BAD);
        due("sort(0, 14, 0)", x.sort(0, 14, 0), BAD);
        due("sort(2001, 3, 3)", x.sort(2001, 3, 3), 0);
        for (int i = 1; i < 8; i++) {
            due("sort(0, 1, 0)", x.sort(0, 1, 0), i);
        }
        due("sort(0, 1, 0)", x.sort(0, 1, 0), FULL);
        due("sort(0, 1, 4)", x.sort(0, 1, 4), BAD);
        due("count(2)", x.count(2), 8);
    }

    private static void sortsFromRows() {
        promise = 5;
        FullerSquare x = new FullerSquare();
        x.square(9, 0);
        x.body(0);
        x.keep(1, 0);
        x.row(2, 2, 9);
        putAll(x, 0, 1, 9, 51, 1, 2, 60, 2, 3, 71, 3, 0, 1);
        due("sorts(-1, 0, 1)", x.sorts(-1, 0, 1), BAD);
        due("sorts(6, 0, 1)", x.sorts(6, 0, 1), BAD);
        due("sorts(0, 0, 0)", x.sorts(0, 0, 0), BAD);
        due("sorts(0, 0, 9)", x.sorts(0, 0, 9), BAD);
        due("sorts of a body", x.sorts(1, 0, 1), -12);
        due("sorts of ints", x.sorts(2, 0, 1), -12);
        due("sorts of nothing", x.sorts(3, 0, 1), 0);
        due("sorts(0, -1, 1)", x.sorts(0, -1, 1), 0);
        due("sorts(0, MIN, 1)", x.sorts(0, MIN, 1), 0);
        due("sorts(0, 9, 1)", x.sorts(0, 9, 1), 0);
        due("sorts(0, MAX, 8)", x.sorts(0, MAX, 8), 0);
        due("sorts(0, 0, 8)", x.sorts(0, 0, 8), 0);
        due("count(2)", x.count(2), 0);
        due("sorts(0, 1, 2)", x.sorts(0, 1, 2), 2);
        due("of(1, 0)", x.of(1, 0), 6);
        due("of(1, 3)", x.of(1, 3), 2);
        due("of(1, 4)", x.of(1, 4), 3);
        due("sorts(0, 1, 8)", x.sorts(0, 1, 8), 3);
        due("sorts(0, 7, 1)", x.sorts(0, 7, 1), 1);
        putAll(x, 4, 1, 10, 1, 0, 10, 1, 0, 10, 1, 0);
        due("sorts till they are full", x.sorts(4, 0, 3), 2);
        due("sorts when full", x.sorts(4, 0, 3), 0);
        due("of(7, 0)", x.of(7, 0), 1);
        FullerSquare y = new FullerSquare();
        y.square(9, 0);
        putAll(y, 0, 1, 1, 0, 10, 1, 0);
        due("sorts(0, -1, 1) of what would be one", y.sorts(0, -1, 1), 0);
        due("count(2)", y.count(2), 0);
        due("sorts(0, 2, 1)", y.sorts(0, 2, 1), 1);
    }

    private static void tape() {
        promise = 6;
        FullerSquare x = new FullerSquare();
        due("feed(-1)", x.feed(-1), BAD);
        due("feed(256)", x.feed(256), BAD);
        due("feed(255)", x.feed(255), 1);
        due("feed(0)", x.feed(0), 2);
        for (int i = 3; i <= 120; i++) {
            due("feed(49)", x.feed(49), i);
        }
        due("feed(49)", x.feed(49), FULL);
        due("feed(256)", x.feed(256), BAD);
        due("count(4)", x.count(4), 120);
        due("law()", x.law(), -100);
        due("count(4)", x.count(4), 0);
        due("feed(49)", x.feed(49), 1);
    }

    private static void laws() {
        promise = 7;
        FullerSquare x = new FullerSquare();
        due("law() of nothing", x.law(), -100);
        due("law of 120", feedAll(x, "1+".repeat(59) + "12"), 0);
        due("law of 120 that ends too early", feedAll(x, "1+".repeat(60)), -220);
        due("law f", feedAll(x, "f"), 1);
        due("law f+", feedAll(x, "f+"), -102);
        due("count(3)", x.count(3), 2);
        due("law 1", feedAll(x, "1"), 2);
        due("law 2", feedAll(x, "2"), 3);
        due("law 3", feedAll(x, "3"), FULL);
        due("count(4)", x.count(4), 1);
        due("law 3z", feedAll(x, "z"), FULL);
        due("count(4)", x.count(4), 2);
        due("feed goes on", x.feed('0'), 3);
    }

    private static void grammar() {
        promise = 7;
        String[] whole = {"1234", "0000", "m;k", "m?k;w?q;n", "((((((f))))))", "!!!!!!o", "------h", "(!-(!-1))", "1--1",
            "1<2|3>4&5=6", "(1<2)<3", "1*2/3%4+5-6", "-(1)-(2)", "!1?!2", "(((((((1))))))".substring(1, 14), "1&2&3|4|5",
            "(1)+(2)+(3)+(4)+(5)+(6)+(7)", "!-!-!-1+!-!-!-1", "((((((1))))))<((((((2))))))", "1-2?3-4;5"};
        for (String text : whole) {
            due("law() of " + text, feedAll(new FullerSquare(), text), 0);
        }
        faults("z", 0, " 1", 0, "1 ", 1, "12345", 4, "1<2<3", 3, "1<2=3", 3, "(1>2)<3>4", 7, "1?2?3", 3);
        faults("(1?2)", 2, "(1;2)", 2, ")", 0, "1)", 1, "(1))", 3, "(", 1, "(1", 2, "()", 1, "1;", 2, ";1", 0);
        faults("1;;2", 2, "?1", 0, "1?", 2, "1?;2", 2, "1?2;", 4, "1+", 2, "1++2", 2, "*1", 0, "1!2", 1, "12m", 2);
        faults("m1", 1, "mk", 1, "!", 1, "-", 1, "!!!!!!!1", 6, "-------1", 6, "(((((((1)))))))", 6, "(!-(!-(1)))", 6);
        faults("((((((-1))))))", 6, "((((((1+-1))))))", 8, "(!-(!-!1))", 6, "M", 0, "1,2", 1, "\u00e9", 0, "1?2:3", 3);
        faults("1||2", 2, "1&|2", 2, "1==2", 2, "x", 0, "1&2<3<4", 5, "1;2?3?4", 5, "99999;1", 4, "-(-(-(-", 6);
    }

    private static void faults(Object... textsAndPlaces) {
        for (int i = 0; i < textsAndPlaces.length; i += 2) {
            String text = (String) textsAndPlaces[i];
            FullerSquare x = new FullerSquare();
            due("law() of " + text, feedAll(x, text), -100 - (Integer) textsAndPlaces[i + 1]);
            due("count(3) behind " + text, x.count(3), 0);
            due("count(4) behind " + text, x.count(4), 0);
        }
    }

    private static void settings() {
        promise = 8;
        FullerSquare x = new FullerSquare();
        int[] least = {1, 0, 0};
        int[] most = {60, 9, 20};
        int[] first = {30, 0, 0};
        for (int what = 0; what < 3; what++) {
            due("set below", x.set(what, least[what] - 1), BAD);
            due("set above", x.set(what, most[what] + 1), BAD);
            due("set far below", x.set(what, MIN), BAD);
            due("set most", x.set(what, most[what]), first[what]);
            due("set least", x.set(what, least[what]), most[what]);
            due("set again", x.set(what, 5), least[what]);
        }
        due("set(-1, 1)", x.set(-1, 1), BAD);
        due("set(3, 1)", x.set(3, 1), BAD);
        due("set(0, 9)", x.set(0, 9), 5);
        due("count(5)", x.count(5), 0);
    }

    private static void mends() {
        promise = 9;
        FullerSquare x = new FullerSquare();
        due("mend(0, 0, 0)", x.mend(0, 0, 0), BAD);
        due("mend(0, 1, 0)", x.mend(0, 1, 0), BAD);
        x.square(5, 0);
        x.square(6, 0);
        x.sort(71, 1, 0);
        due("mend(0, 0, -1)", x.mend(0, 0, -1), BAD);
        due("mend(0, 0, 201)", x.mend(0, 0, 201), BAD);
        due("mend(1, 0, 1)", x.mend(1, 0, 1), BAD);
        due("mend(-1, 0, 1)", x.mend(-1, 0, 1), BAD);
        due("mend(0, 1, -1)", x.mend(0, 1, -1), BAD);
        due("mend(0, 1, 1000)", x.mend(0, 1, 1000), BAD);
        due("mend(2, 1, 1)", x.mend(2, 1, 1), BAD);
        due("mend(-1, 1, 1)", x.mend(-1, 1, 1), BAD);
        due("mend(0, 2, 1)", x.mend(0, 2, 1), BAD);
        due("mend(0, -1, 1)", x.mend(0, -1, 1), BAD);
        due("count(5)", x.count(5), 0);
        due("mend(0, 0, 200)", x.mend(0, 0, 200), 7);
        due("mend(0, 0, 0)", x.mend(0, 0, 0), 200);
        due("mend(1, 1, 999)", x.mend(1, 1, 999), 6);
        due("of(0, 0)", x.of(0, 0), 0);
        due("of(1, 10)", x.of(1, 10), 999);
        due("of(0, 10)", x.of(0, 10), 5);
        due("of(0, 1)", x.of(0, 1), 1);
        due("count(5)", x.count(5), 3);
    }

    private static void fields() {
        promise = 10;
        FullerSquare x = new FullerSquare();
        x.square(11, 2);
        x.square(12, 1);
        x.way(10, 13, 14);
        x.sort(151, 13, 2);
        int[] ofSort = {15, 1, 1, 3, 2};
        for (int what = 0; what < 5; what++) {
            due("of(0, " + what + ")", x.of(0, what), ofSort[what]);
            due("of(1, " + what + ")", x.of(1, what), BAD);
            due("of(-1, " + what + ")", x.of(-1, what), BAD);
        }
        due("of(0, 10)", x.of(0, 10), 11);
        due("of(0, 11)", x.of(0, 11), 2);
        due("of(1, 10)", x.of(1, 10), 12);
        due("of(1, 11)", x.of(1, 11), 1);
        due("of(2, 10)", x.of(2, 10), BAD);
        due("of(-1, 11)", x.of(-1, 11), BAD);
        int[] ofWay = {1, 0, 13, 14};
        for (int what = 20; what < 24; what++) {
            due("of(0, " + what + ")", x.of(0, what), ofWay[what - 20]);
            due("of(1, " + what + ")", x.of(1, what), BAD);
            due("of(-1, " + what + ")", x.of(-1, what), BAD);
        }
        int[] none = {-1, 5, 9, 12, 19, 24, MIN, MAX};
        for (int what : none) {
            due("of(0, " + what + ")", x.of(0, what), BAD);
        }
    }

    // ---- runs

    private static void runs() {
        promise = 11;
        FullerSquare x = new FullerSquare();
        due("run()", x.run(), STATE);
        x.square(10, 2);
        due("run()", x.run(), 2);
        x.square(10, 1);
        due("run() of like counts", x.run(), 2);
        x.sort(31, 1, 0);
        due("run() without a WAY", x.run(), 2);
        x.way(1, 29, 2);
        x.set(0, 30);
        due("run() by their WANT", x.run(), 1);
        due("told(11)", x.told(11), 3);
        x.set(0, 29);
        due("run() too short for the second", x.run(), 1);
        due("told(11)", x.told(11), 2);
        x.set(0, 28);
        due("run() too short", x.run(), 2);
        due("told(4)", x.told(4), 3);
    }

    /** Where a SORT goes: the text's first LINE that counts; a wrong answer is to stay. */
    private static void lawsInRuns() {
        promise = 11;
        gives("0", 0);
        gives("2", 2);
        gives("3", 3);
        gives("4", 3);
        gives("-1", 3);
        gives("9999", 3);
        gives("0?1;2", 2);
        gives("5?1;2", 1);
        gives("-5?1;2", 1);
        gives("0?1", 0);
        gives("0?1;0?2", 0);
        gives("0?1;1?2;1", 2);
        gives("2|0", 1);
        gives("0|0", 0);
        gives("2&1", 1);
        gives("1&0", 0);
        gives("1|1&0", 1);
        gives("(1|1)&0", 0);
        gives("1<2", 1);
        gives("2<2", 0);
        gives("2=2", 1);
        gives("2=1", 0);
        gives("2>1", 1);
        gives("2>2", 0);
        gives("1+1=2", 1);
        gives("7-4-1", 2);
        gives("1+2*3-5", 2);
        gives("(1+2)*3-7", 2);
        gives("7/2", 3);
        gives("7/2-1", 2);
        gives("0-7/3+4", 2);
        gives("-7%3+3", 2);
        gives("-7/3+4", 2);
        gives("9/0+2", 2);
        gives("9%0+2", 2);
        gives("8/2/2", 2);
        gives("7%4%2+1", 2);
        gives("2*3%4", 2);
        gives("!0", 1);
        gives("!2", 0);
        gives("!0+1", 2);
        gives("!!5", 1);
        gives("-1+2", 1);
        gives("--2", 2);
        gives("-!0+3", 2);
        gives("1--1", 2);
        gives("0010-0008", 2);
        gives("(9999*9999*9999<0)+1", 2);
        gives("(0<1)+(1>0)", 2);
        gives("-k" + "+k".repeat(58) + "+2", 2);
        gives("0?-k" + "+k".repeat(58), 0);
        gives("0?3;".repeat(29) + "1?2", 2);
        gives("1+((((((1|0)&3)=1)+2)*3-1)%5)-2", 2);
        gives("((((1|1&1=1+1*(0|0&0=0+1*(1|1&1=1+1*1)))))+1)", 2);
    }

    private static void namesInLaws() {
        promise = 11;
        gives("m", 1);
        gives("k+1", 1);
        gives("w+2", 2);
        gives("q-1", 2);
        gives("n", 1);
        gives("f-1", 2);
        gives("o", 1);
        gives("h+1", 2);
        FullerSquare x = pair(99);
        x.sort(50, 1, 0);
        x.sort(91, 11, 0);
        feedAll(x, "m=1?1;q");
        x.run();
        due("m is 1 in the last MINUTE: led(29, 0, 0)", x.led(29, 0, 0), 0);
        due("led(28, 0, 0)", x.led(28, 0, 0), 5);
        feedAll(x, "k&m=30?0;q");
        x.sort(11, 11, 1);
        x.run();
        due("k is the SORT: led(2, 0, 2)", x.led(2, 0, 2), 1);
        FullerSquare y = pair(4);
        y.sort(100, 1, 0);
        feedAll(y, "n>5?1;q");
        y.run();
        due("n is how many are left: told(10)", y.told(10), 2);
        due("told(11)", y.told(11), 8);
        FullerSquare even = pair(9);
        even.sort(30, 1, 0);
        even.sort(30, 11, 0);
        feedAll(even, "f");
        even.run();
        due("of like ones seen the least: told(10)", even.told(10), 6);
        FullerSquare z = pair(1);
        z.sort(30, 1, 0);
        z.sort(30, 11, 1);
        feedAll(z, "h<o?f;q");
        feedAll(z, "q");
        z.run();
        due("of like ones the least is the fullest: told(1)", z.told(1), 0);
        z.mend(1, 0, 4);
        z.run();
        due("h less than o: told(11)", z.told(11), 7);
        z.mend(1, 0, 3);
        z.set(1, 5);
        z.sort(10, 1, 2);
        feedAll(z, "m=30?1;q");
        z.run();
        due("as seen late: led(5, 0, 0)", z.led(5, 0, 0), 3);
        due("led(7, 0, 0)", z.led(7, 0, 0), 3);
        due("led(8, 0, 0)", z.led(8, 0, 0), 2);
    }

    private static void roomAndWays() {
        promise = 11;
        FullerSquare x = new FullerSquare();
        x.square(999, 0);
        x.square(3, 1);
        x.way(1, 5, 9);
        x.way(1, 2, 2);
        x.way(10, 2, 9);
        x.sort(41, 1, 0);
        x.sort(40, 11, 0);
        x.run();
        due("the first of the shortest WAYS: led(0, 0, 0)", x.led(0, 0, 0), 2);
        due("each way by itself: led(0, 1, 1)", x.led(0, 1, 1), 2);
        due("room for one ahead of going: led(2, 1, 0)", x.led(2, 1, 0), 2);
        due("led(3, 1, 0)", x.led(3, 1, 0), 3);
        due("outside: told(4)", x.told(4), 1);
        due("told(11)", x.told(11), 3);
        due("at first HOLDS does not matter: led(0, 1, -1)", x.led(0, 1, -1), 2);
        FullerSquare like = pair(2);
        like.way(1, 2, 9);
        like.sort(51, 1, 0);
        like.run();
        due("of like WAYS the first: led(0, 0, 0)", like.led(0, 0, 0), 3);
        FullerSquare y = new FullerSquare();
        y.square(999, 0);
        y.square(2, 1);
        y.way(1, 1, 3);
        y.sort(20, 1, 3);
        y.sort(21, 1, 3);
        y.sort(21, 1, 3);
        y.set(0, 1);
        y.run();
        due("SORT by SORT they come in: told(11)", y.told(11), 2);
        due("led(1, 1, 1)", y.led(1, 1, 1), 2);
        due("led(1, 1, 2)", y.led(1, 1, 2), 0);
        due("MOST is for all: told(4)", y.told(4), 1);
        due("led(0, 0, 2)", y.led(0, 0, 2), 1);
        FullerSquare z = pair(9);
        z.sort(11, 3, 0);
        z.set(0, 6);
        z.run();
        due("by PACE: told(11)", z.told(11), 1);
        z.set(0, 5);
        z.run();
        due("by PACE, late: told(11)", z.told(11), 0);
    }

    private static void ledMinutes() {
        promise = 12;
        FullerSquare x = pair(3);
        x.sort(51, 1, 0);
        x.sort(40, 1, 0);
        due("led(0, 0, 0)", x.led(0, 0, 0), VOID);
        x.set(0, 3);
        x.run();
        due("led(0, 0, 0)", x.led(0, 0, 0), 2);
        due("led(0, 0, -1)", x.led(0, 0, -1), 6);
        due("led(0, 1, 0)", x.led(0, 1, 0), 0);
        due("led(1, 0, 0)", x.led(1, 0, 0), 0);
        due("led(2, 1, 0)", x.led(2, 1, 0), 3);
        due("led(3, 1, 0)", x.led(3, 1, 0), 5);
        due("led(3, 1, -1)", x.led(3, 1, -1), 5);
        due("led(3, 0, 1)", x.led(3, 0, 1), 4);
        due("led(4, 0, 0)", x.led(4, 0, 0), VOID);
        due("led(-1, 0, 0)", x.led(-1, 0, 0), VOID);
        due("led(0, 2, 0)", x.led(0, 2, 0), VOID);
        due("led(0, -1, 0)", x.led(0, -1, 0), VOID);
        due("led(0, 0, 2)", x.led(0, 0, 2), VOID);
        due("led(0, 0, -2)", x.led(0, 0, -2), VOID);
        due("led(MIN, MAX, MIN)", x.led(MIN, MAX, MIN), VOID);
    }

    private static void toldRuns() {
        promise = 13;
        FullerSquare x = pair(4);
        x.square(999, 2);
        x.sort(91, 1, 0);
        x.sort(20, 21, 0);
        for (int what = 0; what <= 4; what++) {
            due("told(" + what + ")", x.told(what), VOID);
        }
        due("told(10)", x.told(10), VOID);
        x.set(0, 4);
        x.run();
        int[] told = {4, 1, 1, 6, 0};
        int[] counts = {0, 9, 2};
        due("told(12) ahead", x.told(12), 2);
        told[3] = 7;
        for (int what = 0; what <= 4; what++) {
            due("told(" + what + ")", x.told(what), told[what]);
        }
        for (int i = 0; i < 3; i++) {
            due("told(1" + i + ")", x.told(10 + i), counts[i]);
        }
        due("told(13)", x.told(13), VOID);
        due("told(5)", x.told(5), VOID);
        due("told(9)", x.told(9), VOID);
        due("told(-1)", x.told(-1), VOID);
        due("told(MIN)", x.told(MIN), VOID);
        x.set(2, 1);
        x.run();
        due("those from one MINUTE early: told(11)", x.told(11), 8);
        x.set(2, 2);
        x.run();
        due("those from two MINUTES early: told(11)", x.told(11), 4);
        due("the last ones of all are there: led(4, 1, 0)", x.led(4, 1, 0), 9);
        x.set(2, 20);
        x.run();
        due("those from the beginning: told(11)", x.told(11), 0);
        due("those who always stay: told(12)", x.told(12), 2);
        due("told(1)", x.told(1), 2);
        due("told(3)", x.told(3), 2);
        x.set(0, 2);
        x.set(2, 0);
        x.run();
        due("on WAYS: told(4)", x.told(4), 4);
        FullerSquare one = new FullerSquare();
        one.square(3, 1);
        one.sort(71, 1, 0);
        one.run();
        due("BY without another SQUARE", one.told(3), 7);
    }

    private static void keptRun() {
        promise = 13;
        FullerSquare x = pair(9);
        x.sort(51, 1, 0);
        x.set(0, 5);
        x.run();
        feedAll(x, "0");
        x.set(0, 9);
        x.mend(0, 0, 100);
        x.sooner(4);
        x.often(1, 200);
        x.paid(0);
        x.lead(0);
        x.serves(0);
        x.fewer(1);
        due("thoughts are not kept: told(0)", x.told(0), 5);
        due("told(11)", x.told(11), 5);
        due("led(0, 1, -1)", x.led(0, 1, -1), 0);
        due("led(5, 1, 0)", x.led(5, 1, 0), 5);
        due("led(6, 1, 0)", x.led(6, 1, 0), VOID);
        x.run();
        due("the latest run: told(0)", x.told(0), 9);
        due("by the LAW that came since: told(10)", x.told(10), 100);
    }

    /** SQUARES and SORTS that came after THE RUN are none of its. */
    private static void cameLater() {
        FullerSquare x = new FullerSquare();
        x.square(9, 2);
        x.run();
        x.square(9, 1);
        x.sort(30, 1, 0);
        promise = 12;
        due("led(0, 0, 0) of a later SORT", x.led(0, 0, 0), VOID);
        due("led(30, 0, 0) of a later SORT", x.led(30, 0, 0), VOID);
        due("led(0, 1, -1) of a later SQUARE", x.led(0, 1, -1), VOID);
        due("led(0, 1, 0) of both", x.led(0, 1, 0), VOID);
        due("led(0, 0, -1)", x.led(0, 0, -1), 0);
        promise = 13;
        due("told(10)", x.told(10), 0);
        due("told(11) of a later SQUARE", x.told(11), VOID);
        x.sooner(0);
        due("told(11) behind a thought", x.told(11), VOID);
        x.run();
        due("told(10)", x.told(10), 3);
        due("told(11) of a later run", x.told(11), 0);
        due("told(12)", x.told(12), VOID);
        promise = 12;
        due("led(0, 0, 0) of a later run", x.led(0, 0, 0), 3);
        due("led(0, 1, 0) of a later run", x.led(0, 1, 0), 0);
        x.sort(40, 11, 0);
        x.square(9, 0);
        due("led(0, 1, 1) of a later SORT", x.led(0, 1, 1), VOID);
        due("led(0, 1, -1) without it", x.led(0, 1, -1), 0);
        due("led(0, 2, -1) of a later SQUARE", x.led(0, 2, -1), VOID);
        putAll(x, 0, 1, 20, 1, 0);
        x.sorts(0, 0, 1);
        due("led(0, 0, 2) of a SORT from a ROW", x.led(0, 0, 2), VOID);
        x.run();
        due("led(0, 1, 1)", x.led(0, 1, 1), 4);
        due("led(0, 0, 2)", x.led(0, 0, 2), 2);
    }

    // ---- in thought

    private static FullerSquare threeInARow() {
        FullerSquare x = pair(7);
        x.square(40, 2);
        x.square(9, 2);
        x.way(12, 3, 5);
        x.way(2, 9, 50);
        x.way(20, 8, 2);
        x.sort(51, 1, 0);
        x.sort(40, 23, 0);
        return x;
    }

    private static void lasts() {
        promise = 14;
        FullerSquare x = threeInARow();
        due("last(1)", x.last(1), 28);
        due("last(2): over another SQUARE", x.last(2), 25);
        due("last(120)", x.last(120), 15);
        due("last(112)", x.last(112), 21);
        due("last(3): no way leads there", x.last(3), NOT);
        x.set(0, 15);
        due("last(120)", x.last(120), 0);
        x.set(0, 14);
        due("last(120)", x.last(120), NOT);
        int[] bad = {0, 11, 22, 4, 40, 111, 201, -1, -12, MIN, MAX, 1001};
        for (int kab : bad) {
            due("last(" + kab + ")", x.last(kab), BAD);
        }
    }

    private static void flows() {
        promise = 15;
        FullerSquare x = threeInARow();
        due("flow(1)", x.flow(1), 7 * 29);
        due("flow(2): directly, over two WAYS", x.flow(2), 50 * 22 + 2 * 23);
        due("flow(20)", x.flow(20), 50 * 22 + 2 * 23);
        due("flow(102)", x.flow(102), 50 * 4 + 2 * 7);
        due("flow(3)", x.flow(3), 0);
        x.set(0, 25);
        due("flow(102)", x.flow(102), 2 * 2);
        x.set(0, 23);
        due("flow(102)", x.flow(102), 0);
        FullerSquare y = pair(1);
        for (int i = 1; i < 12; i++) {
            y.way(i % 2 == 0 ? 1 : 10, 1, i);
        }
        y.sort(401, 1, 0);
        due("flow(1) over twelve WAYS", y.flow(1), 29 + 66 * 30);
        y.run();
        due("a run over one of twelve WAYS: led(0, 0, 0)", y.led(0, 0, 0), 39);
        int[] bad = {0, 11, 22, 4, 40, 111, 201, -1, -12, MIN, MAX, 1001};
        for (int kab : bad) {
            due("flow(" + kab + ")", x.flow(kab), BAD);
        }
    }

    private static void fewers() {
        promise = 16;
        FullerSquare x = new FullerSquare();
        due("fewer(0)", x.fewer(0), NOT);
        due("fewer(1)", x.fewer(1), NOT);
        due("fewer(-1)", x.fewer(-1), BAD);
        due("fewer(2)", x.fewer(2), BAD);
        x.square(99, 0);
        x.square(99, 1);
        x.sort(30, 1, 0);
        due("fewer(0)", x.fewer(0), 1);
        due("fewer(1)", x.fewer(1), 0);
        x.sort(21, 11, 0);
        due("fewer(0)", x.fewer(0), 1);
        due("fewer(1)", x.fewer(1), 0);
        x.sort(21, 11, 0);
        due("fewer(0)", x.fewer(0), 0);
        due("fewer(1)", x.fewer(1), 0);
        x.mend(2, 0, 1);
        due("fewer(0) of as many", x.fewer(0), NOT);
        due("fewer(1) of as many", x.fewer(1), NOT);
        x.mend(2, 0, 0);
        x.mend(1, 0, 2);
        x.sort(20, 11, 0);
        due("fewer(0)", x.fewer(0), 1);
        due("fewer(1): what fewer want is done", x.fewer(1), 1);
        due("told(0)", x.told(0), VOID);
        FullerSquare y = pair(99);
        y.square(99, 2);
        y.sort(91, 23, 0);
        due("fewer(1): nothing is done", y.fewer(1), 0);
    }

    private static void oftens() {
        promise = 17;
        FullerSquare x = new FullerSquare();
        due("often(1, 10) without SQUARES", x.often(1, 10), STATE);
        due("often(1, 3) without SQUARES", x.often(1, 3), BAD);
        x.square(99, 0);
        x.square(99, 1);
        x.square(99, 2);
        x.sort(30, 1, 0);
        int[] bad = {-1, 0, 2, 9, 13, 19, 203, 210, 211, MIN, MAX};
        for (int nd : bad) {
            due("often(1, " + nd + ")", x.often(1, nd), BAD);
        }
        int[] seeds = {0, 1, 7, -1, MIN, MAX, 123456789};
        for (int seed : seeds) {
            int[] times = new int[3];
            int z = seed;
            for (int i = 0; i < 20; i++) {
                z = z * 1103515245 + 12345;
                times[(z >>> 8) % 3]++;
            }
            for (int thing = 0; thing < 3; thing++) {
                due("often(" + seed + ", 20" + thing + ")", x.often(seed, 200 + thing), times[thing]);
            }
        }
        int z = 5 * 1103515245 + 12345;
        int first = (z >>> 8) % 3;
        due("often once", x.often(5, 10 + first), 1);
        due("often once, another thing", x.often(5, 10 + (first + 1) % 3), 0);
        due("where they are at first", x.of(0, 2), 0);
    }

    private static void sooners() {
        promise = 18;
        FullerSquare x = new FullerSquare();
        due("sooner(0)", x.sooner(0), STATE);
        due("sooner(10)", x.sooner(10), BAD);
        due("sooner(-1)", x.sooner(-1), BAD);
        x = pair(99);
        x.sort(50, 1, 0);
        x.sort(40, 11, 1);
        x.sort(20, 1, 2);
        feedAll(x, "q");
        feedAll(x, "f=1?0;q");
        feedAll(x, "1");
        x.set(0, 8);
        x.set(1, 9);
        x.mend(2, 0, 2);
        for (int lag = 0; lag <= 9; lag++) {
            x.set(1, lag);
            int done = x.run();
            x.set(1, 9 - lag);
            due("sooner(" + lag + ")", x.sooner(lag), done);
        }
        due("seen now: sooner(0)", x.sooner(0), 0);
        due("seen late: sooner(9)", x.sooner(9), 1);
        due("LAG stays", x.set(1, 0), 0);
    }

    private static void bells() {
        promise = 19;
        FullerSquare x = new FullerSquare();
        due("bell(0, 0)", x.bell(0, 0), -11);
        due("bell(-1, 0)", x.bell(-1, 0), BAD);
        due("bell(6, 0)", x.bell(6, 0), BAD);
        due("bell(0, -1)", x.bell(0, -1), BAD);
        due("bell(0, 3)", x.bell(0, 3), BAD);
        x.body(0);
        x.keep(0, 0);
        due("bell of a body", x.bell(0, 0), -12);
        x.row(0, 1, 10);
        due("bell of shorts", x.bell(0, 0), -12);
        x.row(0, 0, 9);
        due("bell of nine", x.bell(0, 0), -13);
        putAll(x, 0, 0, 10, 20, 30, 40, 0, 0, 0, 0, 0, 0);
        due("bell without SQUARES", x.bell(0, 0), STATE);
        x.put(0, 9, 1);
        due("bell of 101", x.bell(0, 0), NOT);
        x.put(0, 0, 8);
        due("bell of 99", x.bell(0, 0), NOT);
        putAll(x, 0, 0, -1, 101, 0, 0, 0, 0, 0, 0, 0, 0);
        due("bell of one that is not so", x.bell(0, 0), NOT);
        putAll(x, 0, 0, -1, 100, 1, 0, 0, 0, 0, 0, 0, 0);
        due("bell of one below 0", x.bell(0, 0), NOT);
        x.square(99, 0);
        x.square(99, 1);
        x.way(1, 5, 9);
        x.sort(51, 1, 0);
        putAll(x, 0, 0, 1, 2, 3, 4, 5, 6, 7, 8, 9, 55, 99, 99);
        x.set(0, 9);
        due("early by 5 and more: bell(0, 0)", x.bell(0, 0), 6 + 7 + 8 + 9 + 55);
        due("bell(0, 1)", x.bell(0, 1), 1 + 2 + 3 + 4 + 5);
        due("bell(0, 2)", x.bell(0, 2), 0);
        x.set(0, 5);
        due("1 at least: bell(0, 1)", x.bell(0, 1), 1);
        due("bell(0, 0)", x.bell(0, 0), 99);
        due("told(0)", x.told(0), VOID);
        due("THE STROKE stays", x.set(0, 30), 5);
    }

    private static void paids() {
        promise = 20;
        FullerSquare x = new FullerSquare();
        due("paid(0)", x.paid(0), BAD);
        x.square(300, 0);
        x.square(300, 1);
        x.square(300, 0);
        due("paid(-1)", x.paid(-1), BAD);
        due("paid(3)", x.paid(3), BAD);
        x.sort(1990, 1, 0);
        due("paid(0)", x.paid(0), 0);
        due("paid(1)", x.paid(1), 200);
        due("paid(2): done as it is", x.paid(2), 0);
        x.mend(0, 0, 200);
        due("paid(1): never", x.paid(1), NOT);
        x.sort(101, 11, 0);
        due("paid(1)", x.paid(1), 191);
        x.way(1, 1, 99);
        x.mend(1, 1, 10);
        x.sort(501, 1, 1);
        x.mend(0, 0, 15);
        due("they take room", x.paid(1), 6);
        FullerSquare y = pair(9);
        y.sort(50, 1, 0);
        y.sort(21, 11, 1);
        feedAll(y, "q");
        feedAll(y, "h>4?0;q");
        due("they are seen", y.paid(1), 8);
        due("FEWER is without them", y.fewer(0), 1);
    }

    private static void leads() {
        promise = 21;
        FullerSquare x = new FullerSquare();
        due("lead(0)", x.lead(0), BAD);
        x = pair(1);
        x.square(5, 1);
        x.sort(51, 1, 0);
        x.sort(20, 1, 1);
        int[] bad = {-1, -10, 3, 9, 20, 21, MIN, MAX};
        for (int kd : bad) {
            due("lead(" + kd + ")", x.lead(kd), BAD);
        }
        feedAll(x, "0");
        feedAll(x, "1");
        x.set(0, 10);
        due("lead(1)", x.lead(1), 7);
        due("lead(11)", x.lead(11), 9);
        x.mend(1, 0, 0);
        due("lead(1): three come, one stays", x.lead(1), 6);
        due("lead(0): they stay", x.lead(0), NOT);
        due("lead(2): no WAY leads there", x.lead(2), NOT);
        x.set(0, 3);
        due("lead(1): too late for more than half", x.lead(1), NOT);
        x.set(0, 4);
        due("lead(1): at 0", x.lead(1), 0);
        x.set(0, 5);
        due("lead(1): at 1", x.lead(1), 1);
        due("LAW stays", x.of(0, 4), 0);
    }

    private static void servings() {
        promise = 22;
        FullerSquare x = new FullerSquare();
        due("serves(0)", x.serves(0), BAD);
        x = pair(1);
        x.square(99, 0);
        x.way(2, 1, 3);
        x.sort(51, 1, 3);
        due("serves(0)", x.serves(0), STATE);
        due("serves(-1)", x.serves(-1), BAD);
        due("serves(1)", x.serves(1), BAD);
        x.set(0, 6);
        feedAll(x, "0");
        due("serves(0): none, the only one", x.serves(0), 0);
        feedAll(x, "n>3?2;q");
        due("serves(0): none, BY is least", x.serves(0), 1);
        feedAll(x, "n>1?1;q");
        due("serves(0): DONE is its WANT", x.serves(0), 2);
        feedAll(x, "1");
        due("serves(0): BY is greatest", x.serves(0), 3);
        FullerSquare even = pair(9);
        even.square(99, 0);
        even.way(2, 1, 9);
        even.sort(31, 1, 0);
        even.sort(31, 11, 3);
        feedAll(even, "q");
        feedAll(even, "2");
        due("serves(0): DONE is its WANT by none", even.serves(0), 1);
        FullerSquare y = pair(9);
        y.sort(50, 1, 0);
        feedAll(y, "m=0?1;0");
        feedAll(y, "0");
        due("serves(0): of like ones the first", y.serves(0), 0);
        y.sort(901, 1, 3);
        due("serves(0): of like ones the first, with none", y.serves(0), 0);
        due("LAW stays", y.of(0, 4), 0);
    }

    private static void judgements() {
        promise = 23;
        FullerSquare x = new FullerSquare();
        due("judge(-1)", x.judge(-1), BAD);
        due("judge(6)", x.judge(6), BAD);
        due("judge(0)", x.judge(0), -11);
        x.body(0);
        x.keep(0, 0);
        due("judge of a body", x.judge(0), -12);
        x.row(0, 0, 9);
        due("judge of bytes", x.judge(0), -12);
        x.row(0, 1, 0);
        due("judge without SQUARES", x.judge(0), NOT);
        x = threeInARow();
        x.row(0, 1, 3);
        due("judge of three", x.judge(0), -13);
        putAll(x, 0, 1, 9, 0, 0, 0);
        due("judge of all", x.judge(0), NOT);
        putAll(x, 0, 1, 9, 1, 0, 0, 99);
        due("judge: too many in all", x.judge(0), 9);
        putAll(x, 0, 1, 10, 0, 0, 0);
        due("judge: fewer could have come", x.judge(0), 0);
        putAll(x, 0, 1, 0, 0, 0, 1);
        due("judge: none could have come", x.judge(0), 3);
        x.mend(1, 0, 100);
        putAll(x, 0, 1, 5, 0, 41, 0);
        due("judge: it holds less", x.judge(0), 2);
        putAll(x, 0, 1, 5, 0, 40, 0);
        due("judge: it holds as many", x.judge(0), NOT);
        x.set(0, 14);
        putAll(x, 0, 1, 6, 0, 0, 0);
        due("judge: some are too slow", x.judge(0), 0);
        putAll(x, 0, 1, 0, 105, 0, 0);
        due("judge: they could", x.judge(0), NOT);
        x.set(0, 4);
        putAll(x, 0, 1, 0, 0, 40, 0);
        due("judge: those who are there", x.judge(0), NOT);
    }

    private static void changes() {
        promise = 24;
        FullerSquare x = pair(1);
        x.sort(50, 1, 0);
        x.mend(0, 0, 6);
        x.mend(0, 1, 7);
        x.mend(0, 0, 8);
        due("undo()", x.undo(), 2);
        due("of(0, 0)", x.of(0, 0), 6);
        due("undo()", x.undo(), 1);
        due("of(0, 10)", x.of(0, 10), 999);
        due("undo()", x.undo(), 0);
        due("of(0, 0)", x.of(0, 0), 5);
        due("undo()", x.undo(), STATE);
        promise = 25;
        due("redo()", x.redo(), 2);
        due("of(0, 0)", x.of(0, 0), 6);
        due("redo()", x.redo(), 1);
        due("of(0, 10)", x.of(0, 10), 7);
        due("undo()", x.undo(), 1);
        due("mend of BAD lets them be", x.mend(0, 0, -1), BAD);
        due("redo()", x.redo(), 1);
        due("redo()", x.redo(), 0);
        due("of(0, 0)", x.of(0, 0), 8);
        due("redo()", x.redo(), STATE);
        x.undo();
        x.mend(0, 0, 9);
        due("redo() behind another", x.redo(), STATE);
        due("undo()", x.undo(), 2);
        due("of(0, 0)", x.of(0, 0), 6);
        promise = 24;
        FullerSquare y = pair(1);
        y.sort(0, 1, 0);
        y.sort(0, 1, 0);
        y.mend(0, 1, 0);
        y.mend(1, 1, 0);
        for (int i = 1; i <= 43; i++) {
            y.mend(i / 2 % 2, i % 2, i);
        }
        due("count(5)", y.count(5), 40);
        for (int i = 39; i >= 0; i--) {
            due("undo()", y.undo(), i);
            fourths(y, i + 3);
        }
        due("undo()", y.undo(), STATE);
        promise = 25;
        for (int i = 39; i >= 0; i--) {
            due("redo()", y.redo(), i);
            fourths(y, 43 - i);
        }
        due("redo()", y.redo(), STATE);
        y.mend(0, 0, 44);
        due("one more is kept for the first", y.undo(), 39);
    }

    /** A mend() to what is there already is no CHANGE. */
    private static void noChanges() {
        promise = 9;
        FullerSquare x = pair(1);
        x.sort(50, 1, 0);
        due("mend(0, 0, 5) to the same", x.mend(0, 0, 5), 5);
        due("mend(1, 1, 999) to the same", x.mend(1, 1, 999), 999);
        due("count(5)", x.count(5), 0);
        promise = 24;
        due("undo()", x.undo(), STATE);
        x.mend(0, 0, 6);
        x.mend(0, 0, 6);
        x.mend(1, 1, 999);
        due("count(5)", x.count(5), 1);
        due("undo() of the latest that changed", x.undo(), 0);
        due("of(0, 0)", x.of(0, 0), 5);
        promise = 25;
        due("mend(0, 0, 5) to the same behind undo()", x.mend(0, 0, 5), 5);
        due("redo() behind what changed nothing", x.redo(), 0);
        due("of(0, 0)", x.of(0, 0), 6);
        promise = 24;
        for (int i = 0; i < 39; i++) {
            x.mend(0, 1, i);
        }
        for (int i = 0; i < 5; i++) {
            x.mend(0, 1, 38);
        }
        due("count(5)", x.count(5), 40);
        for (int i = 39; i >= 0; i--) {
            due("undo()", x.undo(), i);
        }
        due("the first is not forgotten: of(0, 0)", x.of(0, 0), 5);
    }

    /** By i changes, the n-th of which made MANY or HOLDS (n % 2) of number n / 2 % 2 to n. */
    private static void fourths(FullerSquare x, int i) {
        for (int kind = 0; kind < 4; kind++) {
            int latest = 0;
            for (int n = 1; n <= i; n++) {
                latest = n % 4 == kind ? n : latest;
            }
            due("behind " + i + " changes", x.of(kind / 2, kind % 2 == 0 ? 0 : 10), latest);
        }
    }

    // ---- acts, shelves

    private static FullerSquare eightBodies() {
        FullerSquare x = new FullerSquare();
        for (int kind = 0; kind < 8; kind++) {
            x.body(kind);
        }
        return x;
    }

    private static void bodies() {
        promise = 26;
        FullerSquare x = new FullerSquare();
        due("body(-1)", x.body(-1), BAD);
        due("body(8)", x.body(8), BAD);
        for (int i = 0; i < 50; i++) {
            due("body", x.body(i % 8), i);
        }
        due("body(0)", x.body(0), FULL);
        due("body(8)", x.body(8), BAD);
        due("count(6)", x.count(6), 50);
    }

    private static void acts() {
        promise = 27;
        FullerSquare x = eightBodies();
        int[][] due = {
            {100, 200, 100, 199}, {104, 208, 101, 208}, {102, -204, 102, -207}, {103, -208, 309, -214},
            {107, 214, 96, 212}, {108, 216, 87, 209 ^ 5}, {212, 424, 98, 417}, {213, 431, 99, 425}};
        due[4][3] = 214 - (1 ^ 4) ^ 5;
        due[5][3] = (216 - ((1 ^ 5) - 10) ^ 5) + 1;
        for (int body = 0; body < 8; body++) {
            for (int act = 0; act < 4; act++) {
                due("act(" + body + ", " + act + ", 100)", x.act(body, act, 100), due[body][act]);
            }
        }
        due("act(1, 1, MAX)", x.act(1, 1, MAX), (MAX + 4) * 2);
        due("act(3, 2, MIN)", x.act(3, 2, MIN), (MIN ^ 3) * 3);
        due("act(-1, 0, 1)", x.act(-1, 0, 1), 0);
        due("act(8, 0, 1)", x.act(8, 0, 1), 0);
        due("act(0, -1, 1)", x.act(0, -1, 1), 0);
        due("act(0, 4, 1)", x.act(0, 4, 1), 0);
    }

    private static void traces() {
        promise = 28;
        FullerSquare x = eightBodies();
        int[][] due = {
            {2, 10, 1, 11}, {2, 10, 20, 1, 11}, {2, 30, 10, 1, 11}, {2, 41, 30, 10, 1, 40, 11}, {50, 2, 10, 20, 1, 11},
            {61, 50, 2, 10, 20, 1, 60, 11, 20, 1}, {2, 10, 70, 1, 11}, {2, 80, 10, 81, 70, 1, 11, 11}};
        for (int body = 0; body < 8; body++) {
            x.act(body, 3, 1);
            due("count(7)", x.count(7), due[body].length);
            for (int i = 0; i < due[body].length; i++) {
                due("body " + body + ": trace(" + i + ")", x.trace(i), due[body][i]);
            }
            due("trace behind", x.trace(due[body].length), BAD);
        }
        due("trace(-1)", x.trace(-1), BAD);
        due("trace(24)", x.trace(24), BAD);
        due("trace(MAX)", x.trace(MAX), BAD);
        x.act(0, 9, 0);
        due("trace(0) behind no act", x.trace(0), BAD);
        due("count(7) behind no act", x.count(7), 0);
        x.act(0, 0, 0);
        due("trace(0)", x.trace(0), 1);
        x.act(9, 0, 0);
        due("trace(0) behind no body", x.trace(0), BAD);
    }

    private static void shelves() {
        promise = 29;
        FullerSquare x = new FullerSquare();
        due("keep(0, 0)", x.keep(0, 0), BAD);
        due("keep(0, -1)", x.keep(0, -1), 1);
        x.body(4);
        due("keep(0, 0)", x.keep(0, 0), 1);
        due("taken(0, 4)", x.taken(0, 4), 4);
        due("keep(5, 0)", x.keep(5, 0), 1);
        due("keep(6, 0)", x.keep(6, 0), BAD);
        due("keep(-1, 0)", x.keep(-1, 0), BAD);
        due("keep(0, 1)", x.keep(0, 1), BAD);
        due("keep(0, -2)", x.keep(0, -2), BAD);
        due("taken(0, 4)", x.taken(0, 4), 4);
        due("keep(0, -1)", x.keep(0, -1), 1);
        due("taken(0, 4)", x.taken(0, 4), -11);
        x.row(1, 0, 5);
        due("keep(1, 0)", x.keep(1, 0), 1);
        due("put on a body", x.put(1, 0, 1), -12);
        x.row(1, 0, 5);
        due("keep(1, -1)", x.keep(1, -1), 1);
        due("put on nothing", x.put(1, 0, 1), -11);
    }

    private static void rows() {
        promise = 30;
        FullerSquare x = new FullerSquare();
        due("row(-1, 0, 1)", x.row(-1, 0, 1), BAD);
        due("row(6, 0, 1)", x.row(6, 0, 1), BAD);
        due("row(0, -1, 1)", x.row(0, -1, 1), BAD);
        due("row(0, 5, 1)", x.row(0, 5, 1), BAD);
        due("row(0, 0, 61)", x.row(0, 0, 61), BAD);
        due("row(0, 0, MAX)", x.row(0, 0, MAX), BAD);
        due("row(0, 0, -1)", x.row(0, 0, -1), -14);
        due("row(0, 5, -1)", x.row(0, 5, -1), BAD);
        due("row(6, 0, MIN)", x.row(6, 0, MIN), BAD);
        due("put", x.put(0, 0, 1), -11);
        due("row(0, 3, 0)", x.row(0, 3, 0), 1);
        due("put", x.put(0, 0, 1), -13);
        due("row(0, 3, 60)", x.row(0, 3, 60), 1);
        promise = 31;
        due("put(0, 59, MAX)", x.put(0, 59, Long.MAX_VALUE), 1);
        due("put(0, 60, 1)", x.put(0, 60, 1), -13);
        due("put(0, -1, 1)", x.put(0, -1, 1), -13);
        due("put(0, MAX, 1)", x.put(0, MAX, 1), -13);
        due("put(6, 0, 1)", x.put(6, 0, 1), BAD);
        due("put(-1, 0, 1)", x.put(-1, 0, 1), BAD);
        promise = 32;
        due("element(0, 59)", x.element(0, 59), Long.MAX_VALUE);
        due("element(0, 0)", x.element(0, 0), 0);
        due("element(0, 60)", x.element(0, 60), NO_ELEMENT);
        due("element(0, -1)", x.element(0, -1), NO_ELEMENT);
        due("element(1, 0)", x.element(1, 0), NO_ELEMENT);
        due("element(6, 0)", x.element(6, 0), NO_ELEMENT);
        due("element(-1, 0)", x.element(-1, 0), NO_ELEMENT);
        x.body(0);
        x.keep(1, 0);
        due("element of a body", x.element(1, 0), NO_ELEMENT);
        promise = 30;
        x.row(0, 3, 60);
        due("a new row is of zeros", x.element(0, 59), 0);
        long v = 0x123456789abcdef0L;
        long[] lowest = {(byte) v, (short) v, (int) v, v, 1};
        long[] negative = {-1, -1, -1, -1, 1};
        for (int sort = 0; sort < 5; sort++) {
            x.row(2, sort, 3);
            x.put(2, 0, v);
            x.put(2, 1, -1);
            x.put(2, 2, 0);
            due("sort " + sort + ": element(2, 0)", x.element(2, 0), lowest[sort]);
            due("sort " + sort + ": element(2, 1)", x.element(2, 1), negative[sort]);
            due("sort " + sort + ": element(2, 2)", x.element(2, 2), 0);
        }
        x.put(2, 0, 1L << 40);
        due("a boolean of a high bit", x.element(2, 0), 1);
    }

    private static void shifts() {
        promise = 33;
        FullerSquare x = new FullerSquare();
        putAll(x, 0, 2, 1, 2, 3, 4, 5);
        due("shift(0, 0, 0, 1, 4)", x.shift(0, 0, 0, 1, 4), 4);
        elements(x, 0, 1, 1, 2, 3, 4);
        due("shift(0, 1, 0, 0, 4)", x.shift(0, 1, 0, 0, 4), 4);
        elements(x, 0, 1, 2, 3, 4, 4);
        x.row(1, 2, 3);
        due("shift(0, 3, 1, 1, 2)", x.shift(0, 3, 1, 1, 2), 2);
        elements(x, 1, 0, 4, 4);
        due("shift(0, 5, 1, 3, 0)", x.shift(0, 5, 1, 3, 0), 0);
        due("shift(0, 6, 1, 3, 0)", x.shift(0, 6, 1, 3, 0), -13);
        due("shift(0, 5, 1, 4, 0)", x.shift(0, 5, 1, 4, 0), -13);
        due("shift(0, 4, 1, 0, 2)", x.shift(0, 4, 1, 0, 2), -13);
        due("shift(0, 0, 1, 2, 2)", x.shift(0, 0, 1, 2, 2), -13);
        due("shift(0, -1, 1, 0, 1)", x.shift(0, -1, 1, 0, 1), -13);
        due("shift(0, 0, 1, -1, 1)", x.shift(0, 0, 1, -1, 1), -13);
        due("shift(0, 0, 1, 0, -1)", x.shift(0, 0, 1, 0, -1), -13);
        due("shift(0, 1, 1, 1, MAX)", x.shift(0, 1, 1, 1, MAX), -13);
        due("shift(0, MAX, 1, MAX, MAX)", x.shift(0, MAX, 1, MAX, MAX), -13);
        due("shift(0, 0, 6, 0, 1)", x.shift(0, 0, 6, 0, 1), BAD);
        due("shift(-1, 0, 0, 0, 1)", x.shift(-1, 0, 0, 0, 1), BAD);
        due("shift(0, 0, 2, 0, 1)", x.shift(0, 0, 2, 0, 1), -11);
        due("shift(2, 0, 0, 0, 1)", x.shift(2, 0, 0, 0, 1), -11);
        x.body(0);
        x.keep(3, 0);
        due("shift(3, 0, 2, 0, 1)", x.shift(3, 0, 2, 0, 1), -11);
        due("shift(3, 0, 0, 0, 1)", x.shift(3, 0, 0, 0, 1), -12);
        due("shift(0, 0, 3, 0, -1)", x.shift(0, 0, 3, 0, -1), -12);
        due("shift(3, 0, 3, 0, 0)", x.shift(3, 0, 3, 0, 0), -12);
        x.row(4, 3, 3);
        due("shift(0, 0, 4, 0, 1)", x.shift(0, 0, 4, 0, 1), -12);
        elements(x, 0, 1, 2, 3, 4, 4);
    }

    private static void elements(FullerSquare x, int shelf, long... due) {
        for (int i = 0; i < due.length; i++) {
            due("element(" + shelf + ", " + i + ")", x.element(shelf, i), due[i]);
        }
    }

    private static void takens() {
        promise = 34;
        FullerSquare x = eightBodies();
        String[] over = {"0", "01", "02", "023", "014", "0145", "06", "067"};
        for (int body = 0; body < 8; body++) {
            x.keep(0, body);
            for (int k = 0; k < 8; k++) {
                int want = over[body].indexOf((char) ('0' + k)) >= 0 ? body : -12;
                due("body " + body + ": taken(0, " + k + ")", x.taken(0, k), want);
            }
            due("taken(0, -1)", x.taken(0, -1), BAD);
            due("taken(0, 8)", x.taken(0, 8), BAD);
        }
        due("taken(1, 0)", x.taken(1, 0), -11);
        due("taken(-1, 0)", x.taken(-1, 0), BAD);
        due("taken(6, 0)", x.taken(6, 0), BAD);
        x.row(1, 0, 1);
        due("taken of a row", x.taken(1, 0), -12);
    }

    private static void counts() {
        promise = 35;
        FullerSquare x = pair(9);
        x.square(1, 1);
        x.way(12, 1, 1);
        x.way(12, 1, 1);
        x.way(12, 1, 1);
        x.way(12, 1, 1);
        x.sort(10, 1, 0);
        feedAll(x, "f");
        feedAll(x, "f");
        for (int i = 0; i < 6; i++) {
            x.feed('1');
        }
        for (int i = 0; i < 7; i++) {
            x.mend(0, 0, i);
        }
        for (int i = 0; i < 8; i++) {
            x.body(7);
        }
        x.act(0, 3, 0);
        int[] due = {3, 5, 1, 2, 6, 7, 8, 8};
        for (int what = 0; what < 8; what++) {
            due("count(" + what + ")", x.count(what), due[what]);
        }
        due("count(-1)", x.count(-1), BAD);
        due("count(8)", x.count(8), BAD);
        x.undo();
        due("count(5)", x.count(5), 6);
        due("BAD", FullerSquare.BAD, BAD);
        due("NOT", FullerSquare.NOT, NOT);
        due("FULL", FullerSquare.FULL, FULL);
        due("STATE", FullerSquare.STATE, STATE);
        due("VOID", FullerSquare.VOID, VOID);
    }
}
