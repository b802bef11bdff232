/**
 * The fuller square: a town in which one votes by standing. Terms in capitals are those of the document.
 */
public final class FullerSquare {
    public static final int BAD = -1, NOT = -2, FULL = -3, STATE = -5, VOID = -2000000000;

    private static final int NOTHING_THERE = -11, OTHER_KIND = -12, NO_PLACE = -13, SIZE_BELOW = -14;
    private static final int SQUARES = 4, WAYS = 12, SORTS = 8, LAWS = 4, TAPE = 120;
    private static final int CELLS = SQUARES * SORTS, LONGEST = 60, NO_WAY = 1000000;
    private static final int BODIES = 50, KEPT_TRACE = 24, SHELVES = 6, LONGEST_ROW = 60;
    private static final int BYTES = 0, SHORTS = 1, INTS = 2, BOOLEANS = 4, ANY = -1;
    private static final int MANY_BY = 0, HOLDS_BY = 1;
    private static final int MOST_PEOPLE = 200, MOST_HOLDS = 999, MOST_STANDERS = 200, TOO_MANY = 9;

    private final Town town = new Town();
    private final Laws laws = new Laws();
    private final Noon kept = new Noon(town, laws);
    private final Noon thought = new Noon(town, laws);
    private final Changes changes = new Changes();
    private final Acts acts = new Acts();
    private final Shelf[] shelves = new Shelf[SHELVES];
    private boolean ran = false;

    public FullerSquare() {
        for (int i = 0; i < SHELVES; i++) {
            shelves[i] = new Shelf();
        }
    }

    // ---- the town

    public int square(int holds, int what) {
        if (!within(holds, 0, MOST_HOLDS) || !within(what, 0, 2)) {
            return BAD;
        }
        return town.addSquare(holds, what);
    }

    public int way(int ab, int minutes, int most) {
        if (!town.areTwoSquares(ab) || !within(minutes, 1, 30) || !within(most, 1, 99)) {
            return BAD;
        }
        return town.addWay(ab / 10, ab % 10, minutes, most);
    }

    public int sort(int mw, int sp, int law) {
        return town.addSort(mw, sp, law);
    }

    public int sorts(int shelf, int i, int n) {
        if (!isShelf(shelf) || !within(n, 1, SORTS)) {
            return BAD;
        }
        int refused = shelves[shelf].refusal(SHORTS);
        if (refused == OTHER_KIND) {
            return refused;
        }
        if (refused != 0 || i < 0) {
            return 0;
        }
        return sortsFrom(shelves[shelf], i, n);
    }

    private int sortsFrom(Shelf row, int i, int n) {
        for (int came = 0; came < n; came++) {
            long first = i + 3L * came;
            if (first + 3 > row.size) {
                return came;
            }
            int p = (int) first;
            if (town.addSort((int) row.at(p), (int) row.at(p + 1), (int) row.at(p + 2)) < 0) {
                return came;
            }
        }
        return n;
    }

    public int feed(int letter) {
        if (!within(letter, 0, 255)) {
            return BAD;
        }
        return laws.take(letter);
    }

    public int law() {
        return laws.becomes();
    }

    public int set(int what, int v) {
        int was;
        if (what == 0 && within(v, 1, LONGEST)) {
            was = town.stroke;
            town.stroke = v;
        } else if (what == 1 && within(v, 0, 9)) {
            was = town.lag;
            town.lag = v;
        } else if (what == 2 && within(v, 0, 20)) {
            was = town.early;
            town.early = v;
        } else {
            return BAD;
        }
        return was;
    }

    public int mend(int number, int what, int v) {
        boolean ofSort = what == MANY_BY && town.isSort(number) && within(v, 0, MOST_PEOPLE);
        boolean ofSquare = what == HOLDS_BY && town.isSquare(number) && within(v, 0, MOST_HOLDS);
        if (!ofSort && !ofSquare) {
            return BAD;
        }
        int was = town.mended(number, what, v);
        // What leaves MANY or HOLDS as it was is no CHANGE: nothing to UNDO, and DONE AGAIN stays possible.
        if (was != v) {
            changes.add(number, what, was, v);
        }
        return was;
    }

    public int of(int number, int what) {
        if (what < 10) {
            return town.ofSort(number, what);
        }
        return what < 20 ? town.ofSquare(number, what) : town.ofWay(number, what);
    }

    // ---- runs

    public int run() {
        if (town.squares == 0) {
            return STATE;
        }
        kept.wish.asIn(town);
        kept.pass();
        ran = true;
        return kept.done;
    }

    public int led(int t, int square, int sort) {
        if (!ran || !within(t, 0, kept.wish.stroke) || !kept.hasSquare(square)) {
            return VOID;
        }
        if (sort == -1) {
            return kept.allAtEnd(t, square);
        }
        return kept.hasSort(sort) ? kept.atEnd(t, square, sort) : VOID;
    }

    public int told(int what) {
        if (!ran) {
            return VOID;
        }
        switch (what) {
            case 0:
                return kept.wish.stroke;
            case 1:
                return kept.fullest;
            case 2:
                return kept.done;
            case 3:
                return kept.by;
            case 4:
                return kept.away;
            default:
                return what >= 10 && kept.hasSquare(what - 10) ? kept.counts[what - 10] : VOID;
        }
    }

    // ---- in thought

    public int last(int kab) {
        if (!isSortAndWay(kab)) {
            return BAD;
        }
        return town.lastMinute(kab / 100, kab / 10 % 10, kab % 10);
    }

    public int flow(int kab) {
        if (!isSortAndWay(kab)) {
            return BAD;
        }
        return town.mostOver(kab / 100, kab / 10 % 10, kab % 10);
    }

    private boolean isSortAndWay(int kab) {
        return kab >= 0 && town.isSort(kab / 100) && town.areTwoSquares(kab % 100);
    }

    public int fewer(int what) {
        if (!within(what, 0, 1)) {
            return BAD;
        }
        int wanted = town.fewerWant();
        if (what == 0 || wanted == NOT) {
            return wanted;
        }
        if (town.squares == 0) {
            return STATE;
        }
        thought.wish.asIn(town);
        thought.pass();
        return thought.done == wanted ? 1 : 0;
    }

    public int often(int seed, int nd) {
        int n = nd / 10;
        int thing = nd % 10;
        if (nd < 0 || !within(n, 1, 20) || !within(thing, 0, 2)) {
            return BAD;
        }
        if (town.squares == 0) {
            return STATE;
        }
        int z = seed;
        int times = 0;
        for (int i = 0; i < n; i++) {
            thought.wish.asIn(town);
            z = thought.wish.strew(z, town);
            thought.pass();
            if (thought.done == thing) {
                times++;
            }
        }
        return times;
    }

    public int sooner(int lag) {
        if (!within(lag, 0, 9)) {
            return BAD;
        }
        if (town.squares == 0) {
            return STATE;
        }
        thought.wish.asIn(town);
        thought.wish.lag = lag;
        thought.pass();
        return thought.done;
    }

    public int bell(int shelf, int thing) {
        if (!isShelf(shelf) || !within(thing, 0, 2)) {
            return BAD;
        }
        Shelf row = shelves[shelf];
        int refused = row.refusal(BYTES);
        if (refused != 0) {
            return refused;
        }
        if (row.size < 10) {
            return NO_PLACE;
        }
        if (!makesHundred(row)) {
            return NOT;
        }
        if (town.squares == 0) {
            return STATE;
        }
        int sum = 0;
        for (int e = 0; e < 10; e++) {
            int w = (int) row.at(e);
            if (w > 0) {
                thought.wish.asIn(town);
                thought.wish.stroke = Math.max(1, town.stroke - e);
                thought.pass();
                sum += thought.done == thing ? w : 0;
            }
        }
        return sum;
    }

    private static boolean makesHundred(Shelf row) {
        long sum = 0;
        for (int e = 0; e < 10; e++) {
            long w = row.at(e);
            if (w < 0 || w > 100) {
                return false;
            }
            sum += w;
        }
        return sum == 100;
    }

    public int paid(int square) {
        if (!town.isSquare(square)) {
            return BAD;
        }
        for (int n = 0; n <= MOST_STANDERS; n++) {
            thought.wish.asIn(town);
            thought.wish.stand(square, n);
            thought.pass();
            if (thought.done == town.what[square]) {
                return n;
            }
        }
        return NOT;
    }

    public int lead(int kd) {
        int sort = kd / 10;
        int square = kd % 10;
        if (kd < 0 || !town.isSort(sort) || !town.isSquare(square)) {
            return BAD;
        }
        for (int minute = town.stroke - 1; minute >= 0; minute--) {
            thought.wish.asIn(town);
            thought.wish.follow(sort, square, minute);
            thought.pass();
            if (thought.done == town.want[sort]) {
                return minute;
            }
        }
        return NOT;
    }

    public int serves(int sort) {
        if (!town.isSort(sort)) {
            return BAD;
        }
        if (laws.many == 0) {
            return STATE;
        }
        int best = -1, bestBy = 0, mildest = -1, leastBy = 0;
        for (int law = 0; law < laws.many; law++) {
            thought.wish.asIn(town);
            thought.wish.law[sort] = law;
            thought.pass();
            boolean served = thought.done == town.want[sort];
            if (served && (best < 0 || thought.by > bestBy)) {
                best = law;
                bestBy = thought.by;
            }
            if (mildest < 0 || thought.by < leastBy) {
                mildest = law;
                leastBy = thought.by;
            }
        }
        return best >= 0 ? best : mildest;
    }

    public int judge(int shelf) {
        if (!isShelf(shelf)) {
            return BAD;
        }
        Shelf row = shelves[shelf];
        int refused = row.refusal(SHORTS);
        if (refused != 0) {
            return refused;
        }
        return row.size < town.squares ? NO_PLACE : judged(row);
    }

    private int judged(Shelf row) {
        long all = 0;
        for (int i = 0; i < town.squares; i++) {
            long said = row.at(i);
            if (said > town.holds[i] || said > town.couldCome(i)) {
                return i;
            }
            all += said;
        }
        return all > town.people() ? TOO_MANY : NOT;
    }

    public int undo() {
        return changes.back(town);
    }

    public int redo() {
        return changes.again(town);
    }

    // ---- acts, shelves

    public int body(int kind) {
        return acts.add(kind);
    }

    public int act(int body, int act, int x) {
        return acts.play(body, act, x);
    }

    public int trace(int i) {
        return within(i, 0, Math.min(acts.begun, KEPT_TRACE) - 1) ? acts.bodies[i] : BAD;
    }

    public int keep(int shelf, int body) {
        if (!isShelf(shelf) || body != -1 && !acts.isBody(body)) {
            return BAD;
        }
        shelves[shelf].holdBody(body);
        return 1;
    }

    public int row(int shelf, int sort, int n) {
        if (!isShelf(shelf) || !within(sort, BYTES, BOOLEANS) || n > LONGEST_ROW) {
            return BAD;
        }
        if (n < 0) {
            return SIZE_BELOW;
        }
        shelves[shelf].holdRow(sort, n);
        return 1;
    }

    public int put(int shelf, int i, long v) {
        int refused = placeRefusal(shelf, i);
        if (refused != 0) {
            return refused;
        }
        shelves[shelf].become(i, v);
        return 1;
    }

    public long element(int shelf, int i) {
        return placeRefusal(shelf, i) != 0 ? Long.MIN_VALUE : shelves[shelf].at(i);
    }

    private int placeRefusal(int shelf, int i) {
        if (!isShelf(shelf)) {
            return BAD;
        }
        int refused = shelves[shelf].refusal(ANY);
        if (refused != 0) {
            return refused;
        }
        return shelves[shelf].hasPlaces(i, 1) ? 0 : NO_PLACE;
    }

    public int shift(int shelf, int i, int other, int j, int n) {
        if (!isShelf(shelf) || !isShelf(other)) {
            return BAD;
        }
        Shelf from = shelves[shelf];
        Shelf to = shelves[other];
        if (from.isEmpty() || to.isEmpty()) {
            return NOTHING_THERE;
        }
        if (!from.isRow() || !to.isRow() || from.sort != to.sort) {
            return OTHER_KIND;
        }
        if (!from.hasPlaces(i, n) || !to.hasPlaces(j, n)) {
            return NO_PLACE;
        }
        System.arraycopy(from.elements, i, to.elements, j, n);
        return n;
    }

    public int taken(int shelf, int k) {
        if (!isShelf(shelf) || !Acts.isKind(k)) {
            return BAD;
        }
        if (shelves[shelf].isEmpty()) {
            return NOTHING_THERE;
        }
        int body = shelves[shelf].body;
        if (!acts.isBody(body) || !Acts.isUnder(acts.kinds[body], k)) {
            return OTHER_KIND;
        }
        return acts.kinds[body];
    }

    public int count(int what) {
        switch (what) {
            case 0:
                return town.squares;
            case 1:
                return town.ways;
            case 2:
                return town.sorts;
            case 3:
                return laws.many;
            case 4:
                return laws.fed;
            case 5:
                return changes.done;
            case 6:
                return acts.many;
            case 7:
                return acts.begun;
            default:
                return BAD;
        }
    }

    private static boolean within(int v, int least, int most) {
        return v >= least && v <= most;
    }

    private static boolean isShelf(int shelf) {
        return within(shelf, 0, SHELVES - 1);
    }

    /** SQUARES, WAYS, SORTS as they came, THE STROKE, LAG and EARLY. */
    private static final class Town {
        int squares = 0, ways = 0, sorts = 0;
        int stroke = 30, lag = 0, early = 0;
        final int[] holds = new int[SQUARES], what = new int[SQUARES];
        final int[] one = new int[WAYS], other = new int[WAYS], minutes = new int[WAYS], most = new int[WAYS];
        final int[] many = new int[SORTS], want = new int[SORTS], home = new int[SORTS];
        final int[] pace = new int[SORTS], law = new int[SORTS];
        /** By SQUARES times the one SQUARE and the other: the WAY that is taken (-1: none). */
        final int[] direct = new int[SQUARES * SQUARES];
        /** As direct: the fewest MINUTES from SQUARE to SQUARE. */
        final int[] fewest = new int[SQUARES * SQUARES];

        Town() {
            for (int i = 0; i < SQUARES * SQUARES; i++) {
                direct[i] = -1;
                fewest[i] = i / SQUARES == i % SQUARES ? 0 : NO_WAY;
            }
        }

        boolean isSquare(int square) {
            return square >= 0 && square < squares;
        }

        boolean isSort(int sort) {
            return sort >= 0 && sort < sorts;
        }

        boolean areTwoSquares(int ab) {
            return ab >= 0 && isSquare(ab / 10) && isSquare(ab % 10) && ab / 10 != ab % 10;
        }

        int addSquare(int newHolds, int newWhat) {
            if (squares == SQUARES) {
                return FULL;
            }
            holds[squares] = newHolds;
            what[squares] = newWhat;
            squares++;
            return squares - 1;
        }

        int addWay(int a, int b, int newMinutes, int newMost) {
            if (ways == WAYS) {
                return FULL;
            }
            one[ways] = a;
            other[ways] = b;
            minutes[ways] = newMinutes;
            most[ways] = newMost;
            lay(a, b);
            lay(b, a);
            shorten();
            ways++;
            return ways - 1;
        }

        private void lay(int from, int to) {
            int pair = from * SQUARES + to;
            if (direct[pair] < 0 || minutes[ways] < minutes[direct[pair]]) {
                direct[pair] = ways;
            }
            fewest[pair] = Math.min(fewest[pair], minutes[ways]);
        }

        private void shorten() {
            for (int by = 0; by < SQUARES; by++) {
                for (int i = 0; i < SQUARES * SQUARES; i++) {
                    int around = fewest[i / SQUARES * SQUARES + by] + fewest[by * SQUARES + i % SQUARES];
                    fewest[i] = Math.min(fewest[i], around);
                }
            }
        }

        int addSort(int mw, int sp, int newLaw) {
            if (mw < 0 || mw / 10 > MOST_PEOPLE || mw % 10 > 1 || newLaw < 0 || newLaw >= LAWS) {
                return BAD;
            }
            if (sp < 0 || !isSquare(sp / 10) || sp % 10 < 1 || sp % 10 > 3) {
                return BAD;
            }
            if (sorts == SORTS) {
                return FULL;
            }
            many[sorts] = mw / 10;
            want[sorts] = mw % 10;
            home[sorts] = sp / 10;
            pace[sorts] = sp % 10;
            law[sorts] = newLaw;
            sorts++;
            return sorts - 1;
        }

        /** MANY or HOLDS, already looked at, becomes v: what it was. */
        int mended(int number, int by, int v) {
            int[] mendable = by == MANY_BY ? many : holds;
            int was = mendable[number];
            mendable[number] = v;
            return was;
        }

        int ofSort(int sort, int by) {
            if (!isSort(sort)) {
                return BAD;
            }
            switch (by) {
                case 0:
                    return many[sort];
                case 1:
                    return want[sort];
                case 2:
                    return home[sort];
                case 3:
                    return pace[sort];
                case 4:
                    return law[sort];
                default:
                    return BAD;
            }
        }

        int ofSquare(int square, int by) {
            if (!isSquare(square) || by < 10 || by > 11) {
                return BAD;
            }
            return by == 10 ? holds[square] : what[square];
        }

        int ofWay(int way, int by) {
            if (way < 0 || way >= ways) {
                return BAD;
            }
            switch (by) {
                case 20:
                    return one[way];
                case 21:
                    return other[way];
                case 22:
                    return minutes[way];
                case 23:
                    return most[way];
                default:
                    return BAD;
            }
        }

        int people() {
            return wanting(0) + wanting(1);
        }

        private int wanting(int thing) {
            int sum = 0;
            for (int k = 0; k < sorts; k++) {
                sum += want[k] == thing ? many[k] : 0;
            }
            return sum;
        }

        int fewerWant() {
            int difference = wanting(0) - wanting(1);
            if (difference == 0) {
                return NOT;
            }
            return difference < 0 ? 0 : 1;
        }

        /** Where a SORT goes without a LAW; -1: they stay. */
        int firstFor(int thing) {
            for (int i = 0; i < squares; i++) {
                if (what[i] == thing) {
                    return i;
                }
            }
            return -1;
        }

        int lastMinute(int sort, int from, int to) {
            int minute = stroke - pace[sort] * fewest[from * SQUARES + to];
            return minute < 0 ? NOT : minute;
        }

        int mostOver(int sort, int from, int to) {
            int sum = 0;
            for (int w = 0; w < ways; w++) {
                if (one[w] == from && other[w] == to || one[w] == to && other[w] == from) {
                    sum += most[w] * Math.max(0, stroke + 1 - pace[sort] * minutes[w]);
                }
            }
            return sum;
        }

        int couldCome(int square) {
            int sum = 0;
            for (int k = 0; k < sorts; k++) {
                if (home[k] == square || lastMinute(k, home[k], square) != NOT) {
                    sum += many[k];
                }
            }
            return sum;
        }
    }

    /** THE TAPE, and the LAWS as code: what is joined comes ahead of the sign that joins it. */
    private static final class Laws {
        /** A code below NAME is a number, below SIGN the name's place in NAMES, else a byte. */
        private static final int NAME = 10000, SIGN = 20000;
        private static final int IF = SIGN + '?', END = SIGN + ';', NO = SIGN + '!', MINUS = SIGN + '~';
        private static final int WHOLE = 0, COMPARED = 2, OPERAND = 5, MOST_OPEN = 6, STACK = 64;
        private static final String NAMES = "mkwqnfoh";

        private final int[] tape = new int[TAPE];
        private final int[][] codes = new int[LAWS][TAPE + 1];
        private final int[] sizes = new int[LAWS];
        private final int[] stack = new int[STACK];
        private int at = 0, top = 0;
        int fed = 0, many = 0;

        int take(int letter) {
            if (fed == TAPE) {
                return FULL;
            }
            tape[fed] = letter;
            fed++;
            return fed;
        }

        int becomes() {
            if (many == LAWS) {
                return FULL;
            }
            at = 0;
            sizes[many] = 0;
            boolean whole = readLines();
            fed = 0;
            if (!whole) {
                return -100 - at;
            }
            many++;
            return many - 1;
        }

        /** Each reading function leaves at on the FAULT when it answers false. */
        private boolean readLines() {
            for (int line = 0; line <= TAPE; line++) {
                if (!readLine()) {
                    return false;
                }
                if (at == fed) {
                    return true;
                }
                if (next() != ';') {
                    return false;
                }
                at++;
            }
            return false;
        }

        private boolean readLine() {
            if (!readPart(WHOLE, 0)) {
                return false;
            }
            if (next() == '?') {
                at++;
                write(IF);
                if (!readPart(WHOLE, 0)) {
                    return false;
                }
            }
            write(END);
            return true;
        }

        /** Reads parts of the level above, joined by the signs of this one: E is level 0, O is level 5. */
        private boolean readPart(int level, int open) {
            if (level >= OPERAND) {
                return readOperand(open);
            }
            if (!readPart(level + 1, open)) {
                return false;
            }
            int most = level == COMPARED ? 1 : TAPE;
            for (int joins = 0; joins < most && level == levelOf(next()); joins++) {
                int sign = next();
                at++;
                if (!readPart(level + 1, open)) {
                    return false;
                }
                write(SIGN + sign);
            }
            return true;
        }

        private static int levelOf(int sign) {
            switch (sign) {
                case '|':
                    return 0;
                case '&':
                    return 1;
                case '<':
                case '=':
                case '>':
                    return COMPARED;
                case '+':
                case '-':
                    return 3;
                case '*':
                case '/':
                case '%':
                    return 4;
                default:
                    return -1;
            }
        }

        private boolean readOperand(int open) {
            int sign = next();
            if (isDigit(sign)) {
                readNumber();
                return true;
            }
            int name = sign < 0 ? -1 : NAMES.indexOf((char) sign);
            if (name >= 0) {
                at++;
                write(NAME + name);
                return true;
            }
            if (open >= MOST_OPEN || sign != '(' && sign != '!' && sign != '-') {
                return false;
            }
            at++;
            return readOpened(sign, open + 1);
        }

        private boolean readOpened(int sign, int open) {
            if (sign == '(') {
                if (!readPart(WHOLE, open) || next() != ')') {
                    return false;
                }
                at++;
                return true;
            }
            if (!readOperand(open)) {
                return false;
            }
            write(sign == '!' ? NO : MINUS);
            return true;
        }

        private void readNumber() {
            int number = 0;
            for (int digits = 0; digits < 4 && isDigit(next()); digits++) {
                number = number * 10 + next() - '0';
                at++;
            }
            write(number);
        }

        private static boolean isDigit(int sign) {
            return sign >= '0' && sign <= '9';
        }

        private int next() {
            return at >= 0 && at < fed && at < TAPE ? tape[at] : -1;
        }

        private void write(int code) {
            if (sizes[many] < TAPE + 1) {
                codes[many][sizes[many]] = code;
                sizes[many]++;
            }
        }

        /** What a LAW gives by what is seen, in the order of NAMES. */
        int gives(int law, int[] seen) {
            top = 0;
            boolean past = false;
            for (int i = 0; i < sizes[law]; i++) {
                int code = codes[law][i];
                if (code != END) {
                    past = past || passesLine(code, seen);
                } else if (past) {
                    past = false;
                } else {
                    return pop();
                }
            }
            return 0;
        }

        /** Works one code; whether the rest of the LINE does not count. */
        private boolean passesLine(int code, int[] seen) {
            if (code == IF) {
                return pop() == 0;
            }
            if (code < NAME) {
                push(code);
            } else if (code < SIGN) {
                push(seen[code - NAME]);
            } else if (code == NO) {
                push(pop() == 0 ? 1 : 0);
            } else if (code == MINUS) {
                push(-pop());
            } else {
                int right = pop();
                push(joined(pop(), code - SIGN, right));
            }
            return false;
        }

        private static int joined(int left, int sign, int right) {
            switch (sign) {
                case '|':
                    return left != 0 || right != 0 ? 1 : 0;
                case '&':
                    return left != 0 && right != 0 ? 1 : 0;
                case '<':
                    return left < right ? 1 : 0;
                case '=':
                    return left == right ? 1 : 0;
                case '>':
                    return left > right ? 1 : 0;
                case '+':
                    return left + right;
                case '-':
                    return left - right;
                case '*':
                    return left * right;
                case '/':
                    return right == 0 ? 0 : left / right;
                default:
                    return right == 0 ? 0 : left % right;
            }
        }

        private void push(int v) {
            if (top < STACK) {
                stack[top] = v;
                top++;
            }
        }

        private int pop() {
            if (top <= 0) {
                return 0;
            }
            top--;
            return stack[top];
        }
    }

    /** How A RUN differs from the town as it is. */
    private static final class Wish {
        int stroke = 1, lag = 0, standAt = 0, standers = 0;
        int ledSort = -1, ledTo = 0, ledFrom = 0;
        final int[] home = new int[SORTS], law = new int[SORTS];

        void asIn(Town town) {
            stroke = town.stroke;
            lag = town.lag;
            standers = 0;
            ledSort = -1;
            System.arraycopy(town.home, 0, home, 0, SORTS);
            System.arraycopy(town.law, 0, law, 0, SORTS);
        }

        void stand(int square, int n) {
            standAt = square;
            standers = n;
        }

        void follow(int sort, int square, int minute) {
            ledSort = sort;
            ledTo = square;
            ledFrom = minute;
        }

        /** SORTS begin anywhere, by z; z as it is then. */
        int strew(int z, Town town) {
            int next = z;
            for (int k = 0; k < town.sorts && town.squares > 0; k++) {
                next = next * 1103515245 + 12345;
                home[k] = (next >>> 8) % town.squares;
            }
            return next;
        }
    }

    /** A RUN: its state is held by cells, SORTS times the SQUARE and the SORT. */
    private static final class Noon {
        private final Town town;
        private final Laws laws;
        final Wish wish = new Wish();
        private final int[] there = new int[CELLS], outside = new int[CELLS], least = new int[CELLS];
        private final int[] all = new int[SQUARES];
        /** By MINUTES: who is due then, and who was there as it ended. */
        private final int[] due = new int[(LONGEST + 1) * CELLS], ended = new int[(LONGEST + 1) * CELLS];
        private final int[] began = new int[LONGEST * SQUARES];
        /** How many may still set out in this MINUTE: by WAYS, that way and the other. */
        private final int[] free = new int[2 * WAYS];
        /** What a LAW is told, in the order of its NAMES. */
        private final int[] seen = new int[8];
        private int seenMinute = 0;
        /** How many the town had as THE RUN began: those that come later are none of its. */
        private int squares = 0, sorts = 0;
        final int[] counts = new int[SQUARES];
        int fullest = 0, done = 0, by = 0, away = 0;

        Noon(Town town, Laws laws) {
            this.town = town;
            this.laws = laws;
        }

        boolean hasSquare(int square) {
            return square >= 0 && square < squares;
        }

        boolean hasSort(int sort) {
            return sort >= 0 && sort < sorts;
        }

        int atEnd(int t, int square, int sort) {
            return ended[t * CELLS + square * SORTS + sort];
        }

        int allAtEnd(int t, int square) {
            int sum = 0;
            for (int k = 0; k < SORTS; k++) {
                sum += atEnd(t, square, k);
            }
            return sum;
        }

        /** Only in a town with SQUARES. */
        void pass() {
            begin();
            for (int t = 0; t < wish.stroke; t++) {
                see(t);
                arrive(t);
                go(t);
                end(t);
            }
            arrive(wish.stroke);
            end(wish.stroke);
            tally();
        }

        private void begin() {
            squares = town.squares;
            sorts = town.sorts;
            for (int i = 0; i < CELLS; i++) {
                there[i] = 0;
                outside[i] = 0;
                least[i] = MOST_PEOPLE;
            }
            for (int i = 0; i < (wish.stroke + 1) * CELLS; i++) {
                due[i] = 0;
            }
            for (int i = 0; i < SQUARES; i++) {
                all[i] = 0;
            }
            for (int k = 0; k < town.sorts; k++) {
                there[wish.home[k] * SORTS + k] = town.many[k];
                all[wish.home[k]] += town.many[k];
            }
            all[wish.standAt] += wish.standers;
        }

        private void see(int t) {
            for (int i = 0; i < SQUARES; i++) {
                began[t * SQUARES + i] = all[i];
            }
            seenMinute = Math.max(0, t - wish.lag);
            int most = 0;
            for (int i = 1; i < town.squares; i++) {
                most = seenIn(i) > seenIn(most) ? i : most;
            }
            seen[0] = wish.stroke - t;
            seen[5] = most;
            seen[6] = seenIn(most);
        }

        private int seenIn(int square) {
            return began[seenMinute * SQUARES + square];
        }

        private void arrive(int t) {
            for (int i = 0; i < town.squares; i++) {
                for (int k = 0; k < town.sorts; k++) {
                    int cell = i * SORTS + k;
                    outside[cell] += due[t * CELLS + cell];
                    int in = Math.min(outside[cell], Math.max(0, town.holds[i] - all[i]));
                    outside[cell] -= in;
                    there[cell] += in;
                    all[i] += in;
                }
            }
        }

        private void go(int t) {
            for (int w = 0; w < town.ways; w++) {
                free[2 * w] = town.most[w];
                free[2 * w + 1] = town.most[w];
            }
            for (int k = 0; k < town.sorts; k++) {
                for (int i = 0; i < town.squares; i++) {
                    if (there[i * SORTS + k] > 0) {
                        setOut(t, k, i);
                    }
                }
            }
        }

        private void setOut(int t, int k, int i) {
            int to = aim(t, k, i);
            int way = town.isSquare(to) && to != i ? town.direct[i * SQUARES + to] : -1;
            if (way < 0) {
                return;
            }
            int side = town.one[way] == i ? 2 * way : 2 * way + 1;
            int n = Math.min(there[i * SORTS + k], free[side]);
            free[side] -= n;
            there[i * SORTS + k] -= n;
            all[i] -= n;
            int minute = t + town.minutes[way] * town.pace[k];
            if (minute <= wish.stroke) {
                due[minute * CELLS + to * SORTS + k] += n;
            }
        }

        /** The SQUARE that a SORT would go to, as it is given: it may be none. */
        private int aim(int t, int k, int i) {
            if (k == wish.ledSort) {
                return t < wish.ledFrom ? -1 : wish.ledTo;
            }
            if (wish.law[k] >= laws.many) {
                return town.firstFor(town.want[k]);
            }
            seen[1] = k;
            seen[2] = town.want[k];
            seen[3] = i;
            seen[4] = there[i * SORTS + k];
            seen[7] = seenIn(i);
            return laws.gives(wish.law[k], seen);
        }

        /** MINUTE t ended, or (the last one) the stroke is there. */
        private void end(int t) {
            System.arraycopy(there, 0, ended, t * CELLS, CELLS);
            if (t >= wish.stroke - town.early) {
                for (int i = 0; i < CELLS; i++) {
                    least[i] = Math.min(least[i], there[i]);
                }
            }
        }

        private void tally() {
            away = town.people() + wish.standers;
            for (int i = 0; i < SQUARES; i++) {
                counts[i] = i == wish.standAt ? wish.standers : 0;
                for (int k = 0; k < SORTS; k++) {
                    counts[i] += least[i * SORTS + k];
                }
                away -= all[i];
            }
            fullest = 0;
            for (int i = 1; i < town.squares; i++) {
                fullest = counts[i] > counts[fullest] ? i : fullest;
            }
            int next = 0;
            for (int i = 0; i < town.squares; i++) {
                next = i != fullest ? Math.max(next, counts[i]) : next;
            }
            done = town.what[fullest];
            by = counts[fullest] - next;
        }
    }

    /** CHANGES: those ahead of done may be UNDONE, those from there to known DONE AGAIN. */
    private static final class Changes {
        private static final int MOST = 40;
        private final int[] numbers = new int[MOST], whats = new int[MOST];
        private final int[] olds = new int[MOST], news = new int[MOST];
        private int known = 0;
        int done = 0;

        void add(int number, int what, int old, int v) {
            if (done == MOST) {
                forgetFirst();
            }
            numbers[done] = number;
            whats[done] = what;
            olds[done] = old;
            news[done] = v;
            done++;
            known = done;
        }

        private void forgetFirst() {
            System.arraycopy(numbers, 1, numbers, 0, MOST - 1);
            System.arraycopy(whats, 1, whats, 0, MOST - 1);
            System.arraycopy(olds, 1, olds, 0, MOST - 1);
            System.arraycopy(news, 1, news, 0, MOST - 1);
            done--;
        }

        int back(Town town) {
            if (done == 0) {
                return STATE;
            }
            done--;
            town.mended(numbers[done], whats[done], olds[done]);
            return done;
        }

        int again(Town town) {
            if (done == known) {
                return STATE;
            }
            town.mended(numbers[done], whats[done], news[done]);
            done++;
            return known - done;
        }
    }

    /** What a SHELF holds: nothing, a BODY, or a ROW; a row's elements are made once, for every one to come. */
    private static final class Shelf {
        int body = -1, sort = ANY, size = 0;
        final long[] elements = new long[LONGEST_ROW];

        boolean isRow() {
            return sort != ANY;
        }

        boolean isEmpty() {
            return body < 0 && !isRow();
        }

        void holdBody(int newBody) {
            body = newBody;
            sort = ANY;
            size = 0;
        }

        void holdRow(int newSort, int newSize) {
            body = -1;
            sort = newSort;
            size = newSize;
            for (int i = 0; i < LONGEST_ROW; i++) {
                elements[i] = 0;
            }
        }

        /** 0, or why it is no ROW of the wanted sort (ANY: of one of all). */
        int refusal(int wanted) {
            if (isEmpty()) {
                return NOTHING_THERE;
            }
            return isRow() && (wanted == ANY || wanted == sort) ? 0 : OTHER_KIND;
        }

        boolean hasPlaces(int i, int n) {
            return i >= 0 && n >= 0 && (long) i + n <= size;
        }

        long at(int i) {
            return hasPlaces(i, 1) ? elements[i] : 0;
        }

        void become(int i, long v) {
            if (hasPlaces(i, 1)) {
                elements[i] = lowestBits(v);
            }
        }

        private long lowestBits(long v) {
            switch (sort) {
                case BYTES:
                    return (byte) v;
                case SHORTS:
                    return (short) v;
                case INTS:
                    return (int) v;
                case BOOLEANS:
                    return v != 0 ? 1 : 0;
                default:
                    return v;
            }
        }
    }

    /** BODIES by KIND, their ACTS, THE TRACE. A KIND's act is played from the first body at or above it. */
    private static final class Acts {
        private static final int PERSON = 0, FAST = 1, FOLLOW = 2, LATE = 3, LEAD = 4, PAID = 5, BEST = 6, DOG = 7;
        private static final int[] ABOVE = {-1, PERSON, PERSON, FOLLOW, FAST, LEAD, PERSON, BEST};

        final int[] kinds = new int[BODIES], bodies = new int[KEPT_TRACE];
        int many = 0, begun = 0;
        private int kind = 0, number = 0;

        static boolean isKind(int k) {
            return k >= PERSON && k <= DOG;
        }

        static boolean isUnder(int kind, int k) {
            int level = kind;
            for (int i = 0; i <= DOG && isKind(level); i++) {
                if (level == k) {
                    return true;
                }
                level = ABOVE[level];
            }
            return false;
        }

        boolean isBody(int body) {
            return body >= 0 && body < many;
        }

        int add(int newKind) {
            if (!isKind(newKind)) {
                return BAD;
            }
            if (many == BODIES) {
                return FULL;
            }
            kinds[many] = newKind;
            many++;
            return many - 1;
        }

        int play(int body, int act, int x) {
            begun = 0;
            if (!isBody(body)) {
                return 0;
            }
            kind = kinds[body];
            number = body;
            switch (act) {
                case 0:
                    return goes(kind, x);
                case 1:
                    return sees(kind, x);
                case 2:
                    return waits(kind, x);
                case 3:
                    return tells(kind, x);
                default:
                    return 0;
            }
        }

        private void begin(int body) {
            if (begun < KEPT_TRACE) {
                bodies[begun] = body;
            }
            begun++;
        }

        private int goes(int from, int x) {
            switch (from) {
                case FAST:
                case LEAD:
                case PAID:
                    begin(20);
                    return goes(PERSON, x) + 3;
                case BEST:
                    begin(70);
                    return goes(PERSON, x) * 2;
                case DOG:
                    begin(81);
                    return goes(BEST, x) - 1;
                default:
                    begin(1);
                    return x + number;
            }
        }

        private int sees(int from, int x) {
            switch (from) {
                case FOLLOW:
                    begin(30);
                    return -sees(PERSON, x);
                case LATE:
                    begin(41);
                    return sees(FOLLOW, x + 1);
                case DOG:
                    begin(80);
                    return sees(BEST, x) + waits(kind, 2);
                default:
                    begin(10);
                    return goes(kind, x) * 2;
            }
        }

        private int waits(int from, int x) {
            switch (from) {
                case LATE:
                    begin(40);
                    return waits(FOLLOW, x) * 3;
                case PAID:
                    begin(60);
                    return waits(LEAD, x) - goes(kind, 2);
                default:
                    begin(11);
                    return x ^ number;
            }
        }

        private int tells(int from, int x) {
            switch (from) {
                case LEAD:
                    begin(50);
                    return tells(FAST, x) ^ 5;
                case PAID:
                    begin(61);
                    return tells(LEAD, x) + 1;
                default:
                    begin(2);
                    return sees(kind, x) - waits(kind, 1);
            }
        }
    }
}
