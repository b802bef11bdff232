/** The boundaries of THE TAPE and of LAWS: Terms 1 from LAWS on, promises 6 and 7. A method for each sentence. */
public final class BoundariesOfLawsTest {
    private static final int BAD = Towns.BAD, FULL = Towns.FULL;
    private static final String DIGITS = "0123456789", NAMES = "mkwqnfoh", JOINS = "|&+-*/%", COMPARES = "<=>";
    /** 2 to the 31st: it wraps to the least int. */
    private static final String LEAST = "(8192*8192*32)";

    public static void main(String[] args) {
        bytes();
        tapeOf120();
        tapeIsEmptyThen();
        fourLaws();
        linesOneOrMore();
        bytesThatBegin();
        bytesBehindNames();
        bytesBehindNumbers();
        bytesInParentheses();
        bytesBehindCompared();
        bytesBehindQuestions();
        endsTooEarly();
        sixOpen();
        sixOpenOfEach();
        closedOnesDoNotCount();
        numbers();
        bindings();
        onesAndZeros();
        addWraps();
        negateWraps();
        multiplyWraps();
        divideWraps();
        towardZero();
        byZero();
        firstLineThatCounts();
        noneCounts();
        whatIsNoOtherSquare();
        minutesLeft();
        sortAndWant();
        lawOfEachSort();
        tapeIsNoLawYet();
        whereTheyAre();
        howManyNow();
        fullestSeen();
        howManySeen();
        noneSuchAtThatTime();
        withoutLaw();
        Check.end();
    }

    private static void sends(String text, int square) {
        Check.is(text + " sends to", Towns.sentTo(text), square);
    }

    /** The E is worked out to what the other one is worked out to. */
    private static void same(String e, String other) {
        sends("(" + e + ")=(" + other + ")", 1);
    }

    private static void whole(String text) {
        Check.is("law() of " + text, Towns.law(new FullerSquare(), text), 0);
    }

    private static void fault(String text, int place) {
        Check.is("law() of " + text, Towns.law(new FullerSquare(), text), -100 - place);
    }

    // ---- promise 6

    private static void bytes() {
        Check.sentence("6: a byte (0 .. 255); BAD");
        Towns.range("feed(v)", 0, 255, v -> new FullerSquare().feed(v), 1);
        FullerSquare x = new FullerSquare();
        x.feed(256);
        x.feed(-1);
        Check.is("count(4) behind BAD ones", x.count(4), 0);
        x.feed(256 + 'q');
        x.feed('q');
        Check.is("only the one that is a byte", x.law(), 0);
    }

    private static void tapeOf120() {
        Check.sentence("6: THE TAPE (at most 120 bytes); FULL (120)");
        FullerSquare x = new FullerSquare();
        for (int i = 1; i <= 120; i++) {
            Check.is("feed", x.feed("1+".charAt((i + 1) % 2)), i);
        }
        Check.is("the 121st", x.feed('1'), FULL);
        Check.is("count(4)", x.count(4), 120);
        Check.is("a BAD one when full", x.feed(256), BAD);
        Check.is("law(): the 121st is not there", x.law(), -220);
        Check.is("feed behind", x.feed('1'), 1);
        FullerSquare y = Towns.squares(2, 2, 2, 2);
        y.way(32, 1, 1);
        y.sort(10, 31, 0);
        y.set(0, 1);
        Towns.feed(y, "1+".repeat(59) + "2*1");
        Check.is("the 121st", y.feed('9'), FULL);
        Check.is("a text of 120 that ends too early", y.law(), -220);
        Towns.feed(y, "2+" + "0*1+".repeat(29) + "0");
        Check.is("count(4)", y.count(4), 119);
        Check.is("law() of 119", y.law(), 0);
        y.run();
        Check.is("it is worked out: told(1)", y.told(1), 2);
        String longest = "-k" + "+k".repeat(58) + "+2";
        Check.is("a text of 120, each of which does something", longest.length(), 120);
        sends(longest, 2);
        sends("0?1;".repeat(29) + "1--1", 2);
    }

    // ---- promise 7

    private static void tapeIsEmptyThen() {
        Check.sentence("7: THE TAPE is empty then");
        FullerSquare x = new FullerSquare();
        Check.is("law() of a whole text", Towns.law(x, "f"), 0);
        Check.is("count(4)", x.count(4), 0);
        Check.is("law() of nothing", x.law(), -100);
        Check.is("law() of a fault", Towns.law(x, "f+z"), -102);
        Check.is("count(4)", x.count(4), 0);
        Check.is("count(3): a fault is no LAW", x.count(3), 1);
        Check.is("what was ahead of the fault is gone", Towns.law(x, "1"), 1);
    }

    private static void fourLaws() {
        Check.sentence("7: LAWS 0 .. 3; FULL: 4 (it stays)");
        FullerSquare x = new FullerSquare();
        for (int i = 0; i < 4; i++) {
            Check.is("count(3)", x.count(3), i);
            Check.is("law()", Towns.law(x, "" + i), i);
        }
        Check.is("the fifth", Towns.law(x, "12"), FULL);
        Check.is("count(3)", x.count(3), 4);
        Check.is("THE TAPE stays", x.count(4), 2);
        Check.is("once more", x.law(), FULL);
        Check.is("THE TAPE goes on", x.feed('1'), 3);
        FullerSquare y = Towns.squares(2, 2, 2, 2);
        for (int to = 0; to < 3; to++) {
            y.way(30 + to, 1, 9);
        }
        for (int i = 0; i < 4; i++) {
            y.sort(10, 31, i);
            Towns.law(y, "" + (i + 2) % 4);
        }
        Check.is("the fifth", Towns.law(y, "3"), FULL);
        y.run();
        int[] due = {2, 3, 0, 1};
        for (int k = 0; k < 4; k++) {
            Check.is("each by its LAW: led(1, " + due[k] + ", " + k + ")", y.led(1, due[k], k), 1);
        }
    }

    private static void linesOneOrMore() {
        Check.sentence("7: LINES, one or more, parted by ;");
        fault("", 0);
        whole("1");
        whole("1;2");
        fault(";", 0);
        fault("1;", 2);
        fault(";1", 0);
        fault("1;;2", 2);
        whole("0?1;".repeat(29) + "0?1");
        whole("1;".repeat(59) + "12");
        fault("1;".repeat(60), 120);
    }

    /** All 256 bytes behind a text that may go on: those in ends make it whole, those in opens leave it open. */
    private static void behind(String ahead, String ends, String opens) {
        for (int b = 0; b < 256; b++) {
            FullerSquare x = new FullerSquare();
            Towns.feed(x, ahead);
            x.feed(b);
            int place = ahead.length();
            boolean goesOn = opens.indexOf(b) >= 0;
            int due = ends.indexOf(b) >= 0 ? 0 : -100 - (goesOn ? place + 1 : place);
            Check.is("law() of " + ahead + " and the byte " + b, x.law(), due);
        }
    }

    private static void bytesThatBegin() {
        Check.sentence("7: the first byte with which no text goes on, where an O is to come");
        String[] aheads = {"", "m;", "m?", "m?m;", "m|", "m&", "m<", "m=", "m>", "m+", "m-", "m*", "m/", "m%", "!", "-",
            "m-!", "1234-"};
        for (String ahead : aheads) {
            behind(ahead, DIGITS + NAMES, "(!-");
        }
    }

    private static void bytesBehindNames() {
        Check.sentence("7: the first byte with which no text goes on, behind a NAME");
        for (int i = 0; i < NAMES.length(); i++) {
            behind(NAMES.substring(i, i + 1), "", JOINS + COMPARES + "?;");
        }
        behind("m|q", "", JOINS + COMPARES + "?;");
        behind("(m)", "", JOINS + COMPARES + "?;");
        behind("!m", "", JOINS + COMPARES + "?;");
        behind("m;k", "", JOINS + COMPARES + "?;");
        behind("m?k;w", "", JOINS + COMPARES + "?;");
    }

    private static void bytesBehindNumbers() {
        Check.sentence("7: a number (1 to 4 digits)");
        behind("1", DIGITS, JOINS + COMPARES + "?;");
        behind("12", DIGITS, JOINS + COMPARES + "?;");
        behind("000", DIGITS, JOINS + COMPARES + "?;");
        behind("1234", "", JOINS + COMPARES + "?;");
        behind("m+0000", "", JOINS + COMPARES + "?;");
        fault("12345", 4);
        fault("1;23456;7", 6);
        whole("1234+1234");
    }

    private static void bytesInParentheses() {
        Check.sentence("7: ( E ): no ? and no ; in it");
        behind("(", "", DIGITS + NAMES + "(!-");
        behind("(m", ")", JOINS + COMPARES);
        behind("((m)", ")", JOINS + COMPARES);
        behind("((m", "", ")" + JOINS + COMPARES);
        behind("(m<1", ")", DIGITS + JOINS);
        behind("(m<1)", "", JOINS + COMPARES + "?;");
    }

    private static void bytesBehindCompared() {
        Check.sentence("7: B = S, or S < S, S = S, S > S: once");
        for (int i = 0; i < 3; i++) {
            behind("m" + COMPARES.charAt(i) + "k", "", JOINS + "?;");
            behind("m" + COMPARES.charAt(i) + "k+q*w", "", JOINS + "?;");
            behind("m" + COMPARES.charAt(i) + "k&q", "", JOINS + COMPARES + "?;");
            behind("m" + COMPARES.charAt(i) + "k|q", "", JOINS + COMPARES + "?;");
            behind("m" + COMPARES.charAt(i) + "k;q", "", JOINS + COMPARES + "?;");
            behind("m" + COMPARES.charAt(i) + "k?q", "", JOINS + COMPARES + ";");
            behind("m" + COMPARES.charAt(i) + "(k<q)", "", JOINS + "?;");
        }
    }

    private static void bytesBehindQuestions() {
        Check.sentence("7: LINE: E, or E ? E: once");
        behind("m?k", "", JOINS + COMPARES + ";");
        behind("m?k;q", "", JOINS + COMPARES + "?;");
        behind("m;k?q", "", JOINS + COMPARES + ";");
        fault("1?2?3", 3);
        fault("?1", 0);
        fault("1?", 2);
        fault("1?;2", 2);
        fault("1??2", 2);
    }

    private static void endsTooEarly() {
        Check.sentence("7: FAULT: the length, if it ends too early");
        String[] texts = {"", "(", "!", "-", "m+", "m?", "m;", "(m", "(m)+", "((m)", "m<", "m&", "m|", "m*", "m/", "m%",
            "m>", "m=", "m-", "m?k;", "m?(", "((((((1", "!!!!!!", "1234+"};
        for (String text : texts) {
            fault(text, text.length());
        }
        for (int length = 1; length <= 120; length++) {
            String text = "k+".repeat(60).substring(0, length);
            Check.is("law() of " + length + " bytes", Towns.law(new FullerSquare(), text),
                length % 2 == 1 ? 0 : -100 - length);
        }
    }

    private static void sixOpen() {
        Check.sentence("7: at most 6 of ( ! - ahead of an O are open at once");
        for (int all = 0; all < 729; all++) {
            StringBuilder six = new StringBuilder();
            StringBuilder closing = new StringBuilder();
            for (int i = 0, rest = all; i < 6; i++, rest /= 3) {
                six.append("(!-".charAt(rest % 3));
                closing.append(rest % 3 == 0 ? ")" : "");
            }
            whole(six + "q" + closing);
            fault(six + "(q)" + closing, 6);
            fault(six + "!q" + closing, 6);
            fault(six + "-q" + closing, 6);
        }
    }

    private static void sixOpenOfEach() {
        Check.sentence("7: at most 6 are open: behind six of them");
        behind("((((((", "", DIGITS + NAMES);
        behind("!!!!!!", DIGITS + NAMES, "");
        behind("------", DIGITS + NAMES, "");
        behind("((((((m", "", ")" + JOINS + COMPARES);
        behind("((((((m+", "", DIGITS + NAMES);
        behind("(((((m+-", "", DIGITS + NAMES);
        behind("(((((m+", "", DIGITS + NAMES + "(!-");
        behind("m-((((((", "", DIGITS + NAMES);
        behind("m?!-!-!-", DIGITS + NAMES, "");
        behind("m;!-!-!-", DIGITS + NAMES, "");
    }

    private static void closedOnesDoNotCount() {
        Check.sentence("7: at most 6 are open at once: those that are closed do not count");
        whole("((((((1))))))+((((((1))))))");
        whole("!!!!!!1+!!!!!!1");
        whole("((((((1)))))+1)");
        whole("(((((!1+!1)))))");
        whole("((((((1)+(1)))+(((1))))))");
        whole("(1)".concat("*(1)".repeat(29)));
        whole("!1" + "&!1".repeat(39));
        whole("(((((-1-1-1-1)))))");
        fault("((((((1)+(1)+((1", 14);
        fault("((((((1)))))+(((((((1", 18);
        fault("!!!!!!1+!!!!!!!1", 14);
        fault("!(!(!(1+(1))))", 8);
        whole("!(!(!(1))+(1))");
    }

    // ---- what is worked out

    private static void numbers() {
        Check.sentence("7: a number (1 to 4 digits) is worked out");
        same("0", "1-1");
        same("9999", "99*101");
        same("0000", "0");
        same("0007", "7");
        same("1000", "10*100");
    }

    private static void bindings() {
        Check.sentence("7: E = A | A. A = B & B. B = S < S. S = P + P. P = O * O: the first two first");
        same("9-5-3", "1");
        same("9-5+3", "7");
        same("100/10/5", "2");
        same("100/10*5", "50");
        same("100%7%2", "0");
        same("7*3%4", "1");
        same("2+3*4", "14");
        same("(1<2)=1", "1");
        same("1|1&0", "1");
        same("1+1<3", "1");
        same("2&1<2", "1");
        same("!1+1", "1");
        same("-2*3", "0-6");
        same("-2+3", "1");
        same("!0*5", "5");
        same("1--1", "2");
        same("1-!0", "0");
    }

    private static void onesAndZeros() {
        Check.sentence("7: | & < = > ! give 1, 0");
        String[] ones = {"5|0", "0|5", "5|7", "-1|0", "5&7", "-1&2", "3<4", "-4<-3", "4=4", "4>3", "-3>-4", "!0", "!!9",
            "0|0|9", "1&2&3", "8192*8192*32|0", "1&8192*8192*32"};
        String[] zeros = {"0|0", "5&0", "0&5", "0&0", "4<4", "4<3", "3=4", "4=3", "4>4", "3>4", "!1", "!9", "!-1", "!!0",
            "0|0|0", "1&2&0"};
        for (String e : ones) {
            same("(" + e + ")+7", "8");
        }
        for (String e : zeros) {
            same("(" + e + ")+7", "7");
        }
    }

    private static void addWraps() {
        Check.sentence("7: ints that wrap: + and -");
        same(LEAST + "-1", "8192*8192*31+8192*8191+8191");
        sends(LEAST + "<0", 1);
        sends(LEAST + "-1>0", 1);
        sends(LEAST + "-1+1<0", 1);
        sends(LEAST + "+" + LEAST + "=0", 1);
    }

    private static void negateWraps() {
        Check.sentence("7: ints that wrap: - ahead of an O");
        same("-" + LEAST, LEAST);
        same("--" + LEAST, LEAST);
        same("0-" + LEAST, LEAST);
        sends("!" + LEAST + "=0", 1);
    }

    private static void multiplyWraps() {
        Check.sentence("7: ints that wrap: *");
        same("8192*8192*64", "0");
        same("8192*8192*32*3", LEAST);
        same("9999*9999*9999", inNumbers(9999 * 9999 * 9999));
        same("(" + LEAST + "-1)*2", "-2");
        same("(" + LEAST + "-1)*(" + LEAST + "-1)", "1");
    }

    /** An int told in numbers of at most four digits. */
    private static String inNumbers(int v) {
        int high = v / 10000, low = v % 10000;
        return "(" + high / 1000 + "*1000+" + signed(high % 1000) + ")*10*1000+" + signed(low);
    }

    private static String signed(int v) {
        return v < 0 ? "(0-" + -v + ")" : "" + v;
    }

    private static void divideWraps() {
        Check.sentence("7: ints that wrap: / and % of the least int by -1");
        same(LEAST + "/-1", LEAST);
        same(LEAST + "%-1", "0");
        same(LEAST + "/1", LEAST);
        same("(" + LEAST + "+1)/-1", LEAST + "-1");
        same(LEAST + "/" + LEAST, "1");
        same("1/" + LEAST, "0");
        same("1%" + LEAST, "1");
    }

    private static void towardZero() {
        Check.sentence("7: / and % toward 0");
        same("7/2", "3");
        same("-7/2", "-3");
        same("7/-2", "-3");
        same("-7/-2", "3");
        same("1/2", "0");
        same("-1/2", "0");
        same("7%2", "1");
        same("-7%2", "-1");
        same("7%-2", "1");
        same("-7%-2", "-1");
        same("6%3", "0");
        same("-6%3", "0");
    }

    private static void byZero() {
        Check.sentence("7: / and % by 0 give 0");
        same("7/0", "0");
        same("7%0", "0");
        same("-7/0", "0");
        same("-7%0", "0");
        same("0/0", "0");
        same("0%0", "0");
        same(LEAST + "/0", "0");
        same(LEAST + "%0", "0");
        same("7/(3-3)+2", "2");
        same("5/0*0", "0");
        sends("9/0+2", 2);
        sends("0&1/0;2", 0);
        sends("1|1/0", 1);
        sends("0?1/0;2", 2);
    }

    // ---- which LINE counts

    private static void firstLineThatCounts() {
        Check.sentence("7: the first LINE without a first E, or whose first E is not 0, counts");
        sends("2", 2);
        sends("2;1", 2);
        sends("1?2;1", 2);
        sends("-1?2;1", 2);
        sends(LEAST + "?2;1", 2);
        sends("0?2;1", 1);
        sends("0?2;0?1;2", 2);
        sends("0?0;1?2;1?1", 2);
        sends("0?1;2;1", 2);
        sends("0?1;".repeat(29) + "1?2", 2);
        sends("0?1;".repeat(29) + "2", 2);
        sends("1?0;1?2;2", 0);
        sends("0;2", 0);
    }

    private static void noneCounts() {
        Check.sentence("7: none: 0");
        sends("0?1", 0);
        sends("0?1;0?2", 0);
        sends("0?1;".repeat(29) + "0?2", 0);
    }

    private static void whatIsNoOtherSquare() {
        Check.sentence("7: what it gives is another SQUARE, else they stay");
        sends("3", 3);
        sends("q", 3);
        sends("4", 3);
        sends("-1", 3);
        sends("5", 3);
        sends("9999", 3);
        sends(LEAST, 3);
        sends(LEAST + "-1", 3);
        sends("-2", 3);
        FullerSquare x = Towns.pair(1, 9);
        x.sort(10, 1, 0);
        Towns.law(x, "2");
        x.run();
        Check.is("SQUARE 2 of two: led(30, 0, 0)", x.led(30, 0, 0), 1);
        x.square(9, 0);
        x.run();
        Check.is("SQUARE 2 without a WAY: led(30, 0, 0)", x.led(30, 0, 0), 1);
        x.way(20, 1, 9);
        x.run();
        Check.is("SQUARE 2: led(30, 2, 0)", x.led(30, 2, 0), 1);
    }

    // ---- NAMES

    /** The first MINUTE as which ended nobody of the SORT was in the SQUARE; -1: none. */
    private static int gone(FullerSquare x, int square, int sort) {
        for (int t = 0; t < x.told(0); t++) {
            if (x.led(t, square, sort) == 0) {
                return t;
            }
        }
        return -1;
    }

    private static void minutesLeft() {
        Check.sentence("7: m MINUTES left");
        int[] strokes = {1, 2, 30, 60};
        for (int stroke : strokes) {
            int[] left = {1, stroke};
            for (int m : left) {
                FullerSquare x = Towns.pair(1, 9);
                x.sort(10, 1, 0);
                x.set(0, stroke);
                Towns.law(x, "m=" + m + "?1;q");
                x.run();
                Check.is(stroke + " MINUTES: they go at m = " + m, gone(x, 0, 0), stroke - m);
            }
            FullerSquare x = Towns.pair(1, 9);
            x.sort(10, 1, 0);
            x.set(0, stroke);
            Towns.law(x, "m<1|m>" + stroke + "?1;q");
            x.run();
            Check.is(stroke + " MINUTES: none else", gone(x, 0, 0), -1);
        }
    }

    private static void sortAndWant() {
        Check.sentence("7: k the SORT, w WANT");
        FullerSquare x = Towns.squares(0, 1, 2);
        x.way(1, 1, 99);
        x.way(2, 1, 99);
        for (int k = 0; k < 8; k++) {
            x.sort(10 + k / 2 % 2, 1, 0);
        }
        Towns.law(x, "k=0|k=7?2;w");
        x.run();
        for (int k = 0; k < 8; k++) {
            int due = k == 0 || k == 7 ? 2 : k / 2 % 2;
            Check.is("SORT " + k + " is in SQUARE " + due, x.led(30, due, k), 1);
        }
    }

    private static void lawOfEachSort() {
        Check.sentence("4: a LAW (0 .. 3) of each SORT 0 .. 7");
        for (int more = 0; more < 4; more++) {
            FullerSquare x = Towns.squares(2, 2, 2, 2);
            int[] ways = {1, 2, 3, 12, 13, 23};
            for (int ab : ways) {
                x.way(ab, 1, 99);
            }
            for (int k = 0; k < 8; k++) {
                x.sort(10, 10 * (k / 2) + 1, (k + more) % 4);
            }
            for (int number = 0; number < 4; number++) {
                Towns.law(x, "" + number);
            }
            x.run();
            for (int k = 0; k < 8; k++) {
                Check.is("led(30, " + (k + more) % 4 + ", " + k + ")", x.led(30, (k + more) % 4, k), 1);
            }
        }
    }

    private static void tapeIsNoLawYet() {
        Check.sentence("7: LAWS as they come by THE TAPE: what is on it, or was faulty, is none");
        FullerSquare x = Towns.pair(1, 9);
        x.square(999, 2);
        x.way(2, 1, 9);
        x.sort(10, 1, 0);
        x.sort(11, 1, 1);
        Towns.law(x, "1+(0*(2+3))");
        int[] bytes = {0, 1, 63, 64, 119, 120};
        for (int n : bytes) {
            while (x.count(4) < n) {
                x.feed('2');
            }
            x.run();
            Check.is(n + " bytes on THE TAPE: led(1, 1, 0)", x.led(1, 1, 0), 1);
            Check.is(n + " bytes on THE TAPE, LAW 1: led(1, 1, 1)", x.led(1, 1, 1), 1);
            Check.is(n + " bytes on THE TAPE: serves(0)", x.serves(0), 0);
        }
        String[] faulty = {"z", "2z", "2+"};
        x.law();
        for (String text : faulty) {
            Towns.law(x, text);
            x.run();
            Check.is("behind " + text + ": led(1, 1, 0)", x.led(1, 1, 0), 1);
            Check.is("behind " + text + ": serves(0)", x.serves(0), 0);
            Check.is("behind " + text + ": count(3)", x.count(3), 1);
        }
    }

    private static void whereTheyAre() {
        Check.sentence("7: q the SQUARE where they are");
        FullerSquare x = Towns.squares(2, 2, 2, 2);
        x.way(1, 1, 9);
        x.way(12, 1, 9);
        x.way(23, 1, 9);
        x.sort(10, 1, 0);
        x.sort(10, 31, 1);
        Towns.law(x, "q+1");
        Towns.law(x, "q-1");
        x.set(0, 3);
        x.run();
        Check.is("from SQUARE to SQUARE up: led(3, 3, 0)", x.led(3, 3, 0), 1);
        Check.is("and down: led(3, 0, 1)", x.led(3, 0, 1), 1);
        x.set(0, 9);
        x.run();
        Check.is("3 + 1 is none: led(9, 3, 0)", x.led(9, 3, 0), 1);
        Check.is("0 - 1 is none: led(9, 0, 1)", x.led(9, 0, 1), 1);
    }

    private static void howManyNow() {
        Check.sentence("7: n how many of this SORT are there now");
        FullerSquare x = Towns.pair(1, 3);
        x.sort(100, 1, 0);
        x.sort(70, 1, 3);
        Towns.law(x, "n>4?1;q");
        x.run();
        Check.is("ten, seven, four: led(0, 0, 0)", x.led(0, 0, 0), 7);
        Check.is("led(1, 0, 0)", x.led(1, 0, 0), 4);
        Check.is("led(30, 0, 0)", x.led(30, 0, 0), 4);
        FullerSquare y = Towns.squares(2, 2, 2);
        y.way(1, 1, 1);
        y.way(12, 1, 9);
        y.sort(50, 1, 0);
        Towns.law(y, "q=0?1;q=1&n=1&h=0?2;q");
        y.run();
        Check.is("who came in this MINUTE is there now: led(1, 1, 0)", y.led(1, 1, 0), 0);
        Check.is("led(2, 2, 0)", y.led(2, 2, 0), 1);
    }

    /** Whether one of those who are in each of four SQUARES (she is in the first with any) goes on at once by a first E. */
    private static boolean goes(String e, int... many) {
        FullerSquare x = Towns.squares(2, 2, 2, 2);
        int at = 0;
        while (many[at] == 0) {
            at++;
        }
        for (int i = 0; i < 4; i++) {
            x.way(10 * i + (i + 1) % 4, 1, 9);
            x.sort(10 * (i == at ? many[i] - 1 : many[i]), 10 * i + 1, 3);
        }
        x.sort(10, 10 * at + 1, 0);
        Towns.law(x, e + "?(q+1)%4;q");
        x.run();
        return x.led(0, at, 4) == 0;
    }

    private static void fullestSeen() {
        Check.sentence("7: f the fullest SQUARE as SEEN (of like ones the least)");
        int[][] manies = {{5, 5, 5, 5}, {4, 5, 5, 5}, {4, 4, 5, 5}, {4, 4, 4, 5}, {5, 4, 5, 6}, {6, 6, 5, 7}, {0, 1, 0, 0},
            {1, 0, 2, 1}, {1, 0, 0, 0}, {0, 0, 0, 1}, {0, 2, 2, 0}, {9, 8, 9, 9}};
        int[] due = {0, 1, 2, 3, 3, 3, 1, 2, 0, 3, 1, 0};
        for (int i = 0; i < manies.length; i++) {
            for (int f = 0; f < 4; f++) {
                Check.is("town " + i + ": f=" + f, goes("f=" + f, manies[i]) ? 1 : 0, f == due[i] ? 1 : 0);
            }
        }
    }

    private static void howManySeen() {
        Check.sentence("7: o how many are SEEN there, h how many are SEEN here");
        int[][] manies = {{3, 5, 4, 1}, {0, 2, 2, 1}, {7, 1, 1, 1}, {0, 0, 0, 1}, {200, 150, 200, 199}};
        int[] there = {5, 2, 7, 1, 200};
        int[] here = {3, 2, 7, 1, 200};
        for (int i = 0; i < manies.length; i++) {
            for (int more = -1; more <= 1; more++) {
                int due = more == 0 ? 1 : 0;
                Check.is("town " + i + ": o", goes("o=" + (there[i] + more), manies[i]) ? 1 : 0, due);
                Check.is("town " + i + ": h", goes("h=" + (here[i] + more), manies[i]) ? 1 : 0, due);
            }
        }
    }

    // ---- LAWS that are not there

    private static void noneSuchAtThatTime() {
        Check.sentence("4: a LAW (none such at that time: as without one)");
        for (int law = 0; law < 4; law++) {
            FullerSquare x = Towns.squares(0, 1, 2);
            x.way(1, 1, 9);
            x.way(2, 1, 9);
            x.sort(11, 1, law);
            for (int laws = 0; laws <= 4; laws++) {
                x.run();
                int due = law < laws ? 2 : 1;
                Check.is("LAW " + law + " of " + laws + ": led(30, " + due + ", 0)", x.led(30, due, 0), 1);
                if (laws < 4) {
                    Towns.law(x, "2");
                }
            }
        }
    }

    private static void withoutLaw() {
        Check.sentence("11: without a LAW: the first SQUARE that is FOR their WANT (none: they stay)");
        int[][] fors = {{2, 0, 1, 1}, {2, 1, 1, 0}, {2, 2, 2, 1}, {2, 2, 0, 0}, {2, 2, 2, 2}, {1, 1, 0, 0}, {0, 1, 0, 1}};
        int[][] due = {{1, 2}, {3, 1}, {0, 3}, {2, 0}, {0, 0}, {2, 0}, {0, 1}};
        for (int i = 0; i < fors.length; i++) {
            FullerSquare x = Towns.squares(fors[i]);
            x.way(1, 1, 9);
            x.way(2, 1, 9);
            x.way(3, 1, 9);
            x.sort(10, 1, 0);
            x.sort(11, 1, 0);
            x.run();
            Check.is("town " + i + ": WANT 0", x.led(30, due[i][0], 0), 1);
            Check.is("town " + i + ": WANT 1", x.led(30, due[i][1], 1), 1);
        }
    }
}
