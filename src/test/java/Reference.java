import java.util.ArrayDeque;
import java.util.ArrayList;
import java.util.Arrays;
import java.util.Deque;
import java.util.List;

/**
 * The document told a second time, in another way than the program tells it: people one by one, texts worked
 * from their signs, bodies as classes. Slow; only for tests.
 */
final class Reference {
    static final int BAD = -1, NOT = -2, FULL = -3, STATE = -5, VOID = -2000000000;

    record Square(int holds, int what) { }

    record Way(int a, int b, int minutes, int most) { }

    record Sort(int many, int want, int square, int pace, int law) { }

    record Change(int number, int what, int old, int now) { }

    record Row(int sort, long[] elements) { }

    final List<Square> squares = new ArrayList<>();
    final List<Way> ways = new ArrayList<>();
    final List<Sort> sorts = new ArrayList<>();
    final List<String> laws = new ArrayList<>();
    final StringBuilder tape = new StringBuilder();
    int stroke = 30, lag = 0, early = 0;
    Noon kept = null;
    final Deque<Change> undoable = new ArrayDeque<>();
    final Deque<Change> redoable = new ArrayDeque<>();
    final List<Person> bodies = new ArrayList<>();
    final Object[] shelves = new Object[6];
    static final List<Integer> traced = new ArrayList<>();

    // ---- the town

    int square(int holds, int what) {
        if (holds < 0 || holds > 999 || what < 0 || what > 2) return BAD;
        if (squares.size() == 4) return FULL;
        squares.add(new Square(holds, what));
        return squares.size() - 1;
    }

    int way(int ab, int minutes, int most) {
        if (ab < 0 || ab > 99 || ab / 10 >= squares.size() || ab % 10 >= squares.size() || ab % 11 == 0) return BAD;
        if (minutes < 1 || minutes > 30 || most < 1 || most > 99) return BAD;
        if (ways.size() == 12) return FULL;
        ways.add(new Way(ab / 10, ab % 10, minutes, most));
        return ways.size() - 1;
    }

    int sort(int mw, int sp, int law) {
        if (mw < 0 || mw > 2001 || mw % 10 > 1 || sp < 0 || sp / 10 >= squares.size()) return BAD;
        if (sp % 10 < 1 || sp % 10 > 3 || law < 0 || law > 3) return BAD;
        if (sorts.size() == 8) return FULL;
        sorts.add(new Sort(mw / 10, mw % 10, sp / 10, sp % 10, law));
        return sorts.size() - 1;
    }

    int sorts(int shelf, int i, int n) {
        if (shelf < 0 || shelf > 5 || n < 1 || n > 8) return BAD;
        if (shelves[shelf] == null) return 0;
        if (!(shelves[shelf] instanceof Row row) || row.sort != 1) return -12;
        if (i < 0) return 0;
        int came = 0;
        long at = i;
        while (came < n && at + 2 < row.elements.length) {
            int p = (int) at;
            if (sort((int) row.elements[p], (int) row.elements[p + 1], (int) row.elements[p + 2]) < 0) break;
            at += 3;
            came++;
        }
        return came;
    }

    int feed(int letter) {
        if (letter < 0 || letter > 255) return BAD;
        if (tape.length() == 120) return FULL;
        tape.append((char) letter);
        return tape.length();
    }

    int law() {
        if (laws.size() == 4) return FULL;
        String text = tape.toString();
        tape.setLength(0);
        int fault = fault(text);
        if (fault >= 0) return -100 - fault;
        laws.add(text);
        return laws.size() - 1;
    }

    int set(int what, int v) {
        int was;
        switch (what) {
            case 0: if (v < 1 || v > 60) return BAD; was = stroke; stroke = v; return was;
            case 1: if (v < 0 || v > 9) return BAD; was = lag; lag = v; return was;
            case 2: if (v < 0 || v > 20) return BAD; was = early; early = v; return was;
            default: return BAD;
        }
    }

    int mend(int number, int what, int v) {
        if (number < 0 || v < 0 || what < 0 || what > 1) return BAD;
        if (what == 0 && (number >= sorts.size() || v > 200)) return BAD;
        if (what == 1 && (number >= squares.size() || v > 999)) return BAD;
        int was = become(number, what, v);
        if (v == was) return was;
        undoable.addLast(new Change(number, what, was, v));
        if (undoable.size() > 40) undoable.removeFirst();
        redoable.clear();
        return was;
    }

    private int become(int number, int what, int v) {
        if (what == 0) {
            Sort s = sorts.get(number);
            sorts.set(number, new Sort(v, s.want, s.square, s.pace, s.law));
            return s.many;
        }
        Square q = squares.get(number);
        squares.set(number, new Square(v, q.what));
        return q.holds;
    }

    int of(int number, int what) {
        if (number < 0) return BAD;
        int size = what < 10 ? sorts.size() : what < 20 ? squares.size() : ways.size();
        if (number >= size) return BAD;
        return switch (what) {
            case 0 -> sorts.get(number).many;
            case 1 -> sorts.get(number).want;
            case 2 -> sorts.get(number).square;
            case 3 -> sorts.get(number).pace;
            case 4 -> sorts.get(number).law;
            case 10 -> squares.get(number).holds;
            case 11 -> squares.get(number).what;
            case 20 -> ways.get(number).a;
            case 21 -> ways.get(number).b;
            case 22 -> ways.get(number).minutes;
            case 23 -> ways.get(number).most;
            default -> BAD;
        };
    }

    // ---- texts

    /** The first byte with which no text goes on; the length; or -1. A machine that keeps what is open. */
    static int fault(String s) {
        Deque<Character> open = new ArrayDeque<>();
        Deque<Boolean> outer = new ArrayDeque<>();
        boolean wants = true, compared = false, asked = false;
        int digits = 0;
        for (int i = 0; i < s.length(); i++) {
            char c = s.charAt(i);
            boolean digit = c >= '0' && c <= '9';
            if (digits > 0 && digit) {
                if (++digits > 4) return i;
                continue;
            }
            digits = 0;
            if (wants) {
                if (digit || "mkwqnfoh".indexOf(c) >= 0) {
                    digits = digit ? 1 : 0;
                    wants = false;
                    while (!open.isEmpty() && open.peek() != '(') open.pop();
                } else if (c == '(' || c == '!' || c == '-') {
                    if (open.size() == 6) return i;
                    open.push(c);
                    if (c == '(') { outer.push(compared); compared = false; }
                } else return i;
                continue;
            }
            if (c == ')') {
                if (open.isEmpty()) return i;
                open.pop();
                compared = outer.pop();
                while (!open.isEmpty() && open.peek() != '(') open.pop();
            } else if (c == '|' || c == '&') {
                wants = true;
                compared = false;
            } else if (c == '<' || c == '=' || c == '>') {
                if (compared) return i;
                wants = true;
                compared = true;
            } else if (c == '+' || c == '-' || c == '*' || c == '/' || c == '%') {
                wants = true;
            } else if (c == '?' && open.isEmpty() && !asked) {
                wants = true;
                compared = false;
                asked = true;
            } else if (c == ';' && open.isEmpty()) {
                wants = true;
                compared = false;
                asked = false;
            } else return i;
        }
        return wants || !open.isEmpty() ? s.length() : -1;
    }

    static int gives(String text, int[] names) {
        for (String line : text.split(";")) {
            int q = line.indexOf('?');
            if (q < 0) return work(line, names);
            if (work(line.substring(0, q), names) != 0) return work(line.substring(q + 1), names);
        }
        return 0;
    }

    /** Works a text by its last sign of the loosest kind outside parentheses. */
    static int work(String s, int[] names) {
        for (String signs : new String[] {"|", "&", "<=>", "+-", "*/%"}) {
            int depth = 0;
            for (int i = s.length() - 1; i > 0; i--) {
                char c = s.charAt(i);
                if (c == ')') depth++;
                if (c == '(') depth--;
                char ahead = s.charAt(i - 1);
                boolean joins = ahead == ')' || Character.isLetterOrDigit(ahead);
                if (depth == 0 && joins && signs.indexOf(c) >= 0) {
                    return joined(work(s.substring(0, i), names), c, work(s.substring(i + 1), names));
                }
            }
        }
        char c = s.charAt(0);
        if (c == '!') return work(s.substring(1), names) == 0 ? 1 : 0;
        if (c == '-') return -work(s.substring(1), names);
        if (c == '(') return work(s.substring(1, s.length() - 1), names);
        int name = "mkwqnfoh".indexOf(c);
        return name >= 0 ? names[name] : Integer.parseInt(s);
    }

    private static int joined(int a, char c, int b) {
        return switch (c) {
            case '|' -> a != 0 || b != 0 ? 1 : 0;
            case '&' -> a != 0 && b != 0 ? 1 : 0;
            case '<' -> a < b ? 1 : 0;
            case '=' -> a == b ? 1 : 0;
            case '>' -> a > b ? 1 : 0;
            case '+' -> a + b;
            case '-' -> a - b;
            case '*' -> a * b;
            case '/' -> b == 0 ? 0 : a / b;
            default -> b == 0 ? 0 : a % b;
        };
    }

    // ---- runs

    /** Somebody: in a square, or on the way to one (or outside of it) since due. */
    static final class One {
        final int sort;
        int in, to = -1, due = 0;

        One(int sort, int in) {
            this.sort = sort;
            this.in = in;
        }
    }

    final class Noon {
        final int s, places = squares.size(), groups = sorts.size();
        int lag = Reference.this.lag;
        int standAt = -1, standers = 0, ledSort = -1, ledTo = 0, ledFrom = 0;
        final int[] begins = new int[8], obeys = new int[8];
        final List<One> all = new ArrayList<>();
        final int[][] began, counts = new int[4][8];
        final int[][][] ended;
        final int[] at = new int[4];
        int fullest, done, by, away;

        Noon(int s) {
            this.s = s;
            began = new int[s][4];
            ended = new int[s + 1][4][8];
            for (int k = 0; k < sorts.size(); k++) {
                begins[k] = sorts.get(k).square;
                obeys[k] = sorts.get(k).law;
            }
        }

        Noon pass() {
            for (int k = 0; k < sorts.size(); k++) {
                for (int i = 0; i < sorts.get(k).many; i++) all.add(new One(k, begins[k]));
            }
            for (int t = 0; t < s; t++) {
                for (int q = 0; q < squares.size(); q++) began[t][q] = in(q);
                arrive(t);
                go(t);
                note(t);
            }
            arrive(s);
            note(s);
            count();
            return this;
        }

        int in(int q) {
            int sum = q == standAt ? standers : 0;
            for (One p : all) if (p.in == q) sum++;
            return sum;
        }

        void note(int t) {
            for (One p : all) if (p.in >= 0) ended[t][p.in][p.sort]++;
        }

        void arrive(int t) {
            for (int q = 0; q < squares.size(); q++) {
                int inside = in(q);
                for (int k = 0; k < sorts.size(); k++) {
                    for (One p : all) {
                        if (p.sort == k && p.to == q && p.due <= t && inside < squares.get(q).holds) {
                            p.in = q;
                            p.to = -1;
                            inside++;
                        }
                    }
                }
            }
        }

        void go(int t) {
            int[][] set = new int[12][4];
            for (int k = 0; k < sorts.size(); k++) {
                for (int q = 0; q < squares.size(); q++) {
                    List<One> here = new ArrayList<>();
                    for (One p : all) if (p.sort == k && p.in == q) here.add(p);
                    if (here.isEmpty()) continue;
                    int to = aim(t, k, q, here.size());
                    int way = wayTo(q, to);
                    if (way < 0) continue;
                    for (One p : here) {
                        if (set[way][q] == ways.get(way).most) break;
                        set[way][q]++;
                        p.in = -1;
                        p.to = to;
                        p.due = t + ways.get(way).minutes * sorts.get(k).pace;
                    }
                }
            }
        }

        int wayTo(int q, int to) {
            int best = -1;
            for (int w = 0; w < ways.size(); w++) {
                Way y = ways.get(w);
                boolean leads = y.a == q && y.b == to || y.b == q && y.a == to;
                if (leads && (best < 0 || y.minutes < ways.get(best).minutes)) best = w;
            }
            return best;
        }

        int aim(int t, int k, int q, int n) {
            Sort sort = sorts.get(k);
            if (k == ledSort) return t < ledFrom ? -1 : ledTo;
            if (obeys[k] >= laws.size()) {
                for (int i = 0; i < squares.size(); i++) if (squares.get(i).what == sort.want) return i;
                return -1;
            }
            int[] then = began[Math.max(0, t - lag)];
            int f = 0;
            for (int i = 0; i < squares.size(); i++) if (then[i] > then[f]) f = i;
            return gives(laws.get(obeys[k]), new int[] {s - t, k, sort.want, q, n, f, then[f], then[q]});
        }

        void count() {
            for (int q = 0; q < squares.size(); q++) {
                at[q] = q == standAt ? standers : 0;
                for (int k = 0; k < sorts.size(); k++) {
                    int least = ended[s][q][k];
                    for (int t = Math.max(0, s - early); t < s; t++) least = Math.min(least, ended[t][q][k]);
                    at[q] += least;
                }
            }
            Integer[] order = new Integer[squares.size()];
            for (int q = 0; q < order.length; q++) order[q] = q;
            Arrays.sort(order, (a, b) -> at[a] != at[b] ? at[b] - at[a] : a - b);
            fullest = order[0];
            done = squares.get(fullest).what;
            by = at[fullest] - (order.length > 1 ? at[order[1]] : 0);
            for (One p : all) if (p.in < 0) away++;
        }
    }

    int run() {
        if (squares.isEmpty()) return STATE;
        kept = new Noon(stroke).pass();
        return kept.done;
    }

    int led(int t, int square, int sort) {
        if (kept == null || t < 0 || t > kept.s || square < 0 || square >= kept.places) return VOID;
        if (sort < -1 || sort >= kept.groups) return VOID;
        return sort < 0 ? Arrays.stream(kept.ended[t][square]).sum() : kept.ended[t][square][sort];
    }

    int told(int what) {
        if (kept == null) return VOID;
        if (what >= 10 && what < 10 + kept.places) return kept.at[what - 10];
        return switch (what) {
            case 0 -> kept.s;
            case 1 -> kept.fullest;
            case 2 -> kept.done;
            case 3 -> kept.by;
            case 4 -> kept.away;
            default -> VOID;
        };
    }

    // ---- in thought

    private boolean isKab(int kab) {
        int a = kab / 10 % 10, b = kab % 10;
        return kab >= 0 && kab / 100 < sorts.size() && a < squares.size() && b < squares.size() && a != b;
    }

    int last(int kab) {
        if (!isKab(kab)) return BAD;
        int[] far = new int[4];
        Arrays.fill(far, 100000);
        far[kab / 10 % 10] = 0;
        for (int round = 0; round < 4; round++) {
            for (Way y : ways) {
                far[y.a] = Math.min(far[y.a], far[y.b] + y.minutes);
                far[y.b] = Math.min(far[y.b], far[y.a] + y.minutes);
            }
        }
        int minute = stroke - sorts.get(kab / 100).pace * far[kab % 10];
        return minute < 0 ? NOT : minute;
    }

    int flow(int kab) {
        if (!isKab(kab)) return BAD;
        int a = kab / 10 % 10, b = kab % 10, sum = 0;
        for (Way y : ways) {
            if (Math.min(y.a, y.b) == Math.min(a, b) && Math.max(y.a, y.b) == Math.max(a, b)) {
                for (int t = 0; t + sorts.get(kab / 100).pace * y.minutes <= stroke; t++) sum += y.most;
            }
        }
        return sum;
    }

    int fewer(int what) {
        if (what != 0 && what != 1) return BAD;
        int[] want = new int[2];
        for (Sort s : sorts) want[s.want] += s.many;
        if (want[0] == want[1]) return NOT;
        int few = want[0] < want[1] ? 0 : 1;
        if (what == 0) return few;
        if (squares.isEmpty()) return STATE;
        return new Noon(stroke).pass().done == few ? 1 : 0;
    }

    int often(int seed, int nd) {
        if (nd < 10 || nd / 10 > 20 || nd % 10 > 2) return BAD;
        if (squares.isEmpty()) return STATE;
        int z = seed, sum = 0;
        for (int i = 0; i < nd / 10; i++) {
            Noon noon = new Noon(stroke);
            for (int k = 0; k < sorts.size(); k++) {
                z = z * 1103515245 + 12345;
                noon.begins[k] = (z >>> 8) % squares.size();
            }
            if (noon.pass().done == nd % 10) sum++;
        }
        return sum;
    }

    int sooner(int byLag) {
        if (byLag < 0 || byLag > 9) return BAD;
        if (squares.isEmpty()) return STATE;
        Noon noon = new Noon(stroke);
        noon.lag = byLag;
        return noon.pass().done;
    }

    int bell(int shelf, int thing) {
        if (shelf < 0 || shelf > 5 || thing < 0 || thing > 2) return BAD;
        if (shelves[shelf] == null) return -11;
        if (!(shelves[shelf] instanceof Row row) || row.sort != 0) return -12;
        if (row.elements.length < 10) return -13;
        int sum = 0, hundredths = 0;
        for (int e = 0; e < 10; e++) {
            if (row.elements[e] < 0 || row.elements[e] > 100) return NOT;
            sum += (int) row.elements[e];
        }
        if (sum != 100) return NOT;
        if (squares.isEmpty()) return STATE;
        for (int e = 0; e < 10; e++) {
            if (new Noon(Math.max(1, stroke - e)).pass().done == thing) hundredths += (int) row.elements[e];
        }
        return hundredths;
    }

    int paid(int square) {
        if (square < 0 || square >= squares.size()) return BAD;
        for (int n = 0; n <= 200; n++) {
            Noon noon = new Noon(stroke);
            noon.standAt = square;
            noon.standers = n;
            if (noon.pass().done == squares.get(square).what) return n;
        }
        return NOT;
    }

    int lead(int kd) {
        if (kd < 0 || kd / 10 >= sorts.size() || kd % 10 >= squares.size()) return BAD;
        int best = NOT;
        for (int m = 0; m < stroke; m++) {
            Noon noon = new Noon(stroke);
            noon.ledSort = kd / 10;
            noon.ledTo = kd % 10;
            noon.ledFrom = m;
            if (noon.pass().done == sorts.get(kd / 10).want) best = m;
        }
        return best;
    }

    int serves(int sort) {
        if (sort < 0 || sort >= sorts.size()) return BAD;
        if (laws.isEmpty()) return STATE;
        int[] dones = new int[laws.size()], bys = new int[laws.size()];
        int best = -1;
        for (int l = 0; l < laws.size(); l++) {
            Noon noon = new Noon(stroke);
            noon.obeys[sort] = l;
            noon.pass();
            dones[l] = noon.done;
            bys[l] = noon.by;
            if (noon.done == sorts.get(sort).want && (best < 0 || noon.by > bys[best])) best = l;
        }
        if (best >= 0) return best;
        best = 0;
        for (int l = 1; l < laws.size(); l++) if (bys[l] < bys[best]) best = l;
        return best;
    }

    int judge(int shelf) {
        if (shelf < 0 || shelf > 5) return BAD;
        if (shelves[shelf] == null) return -11;
        if (!(shelves[shelf] instanceof Row row) || row.sort != 1) return -12;
        if (row.elements.length < squares.size()) return -13;
        int people = 0, all = 0;
        for (Sort s : sorts) people += s.many;
        for (int q = 0; q < squares.size(); q++) {
            int could = 0;
            for (int k = 0; k < sorts.size(); k++) {
                int from = sorts.get(k).square;
                if (from == q || last(100 * k + 10 * from + q) != NOT) could += sorts.get(k).many;
            }
            if (squares.get(q).holds < row.elements[q] || could < row.elements[q]) return q;
            all += (int) row.elements[q];
        }
        return all > people ? 9 : NOT;
    }

    int undo() {
        if (undoable.isEmpty()) return STATE;
        Change c = undoable.removeLast();
        become(c.number, c.what, c.old);
        redoable.addLast(c);
        return undoable.size();
    }

    int redo() {
        if (redoable.isEmpty()) return STATE;
        Change c = redoable.removeLast();
        become(c.number, c.what, c.now);
        undoable.addLast(c);
        return redoable.size();
    }

    // ---- acts, shelves

    interface Goes {
        int number();

        default int goes(int x) { traced.add(1); return x + number(); }
    }

    interface Tells {
        int sees(int x);

        int waits(int x);

        default int tells(int x) { traced.add(2); return sees(x) - waits(1); }
    }

    static class Person implements Goes, Tells {
        final int number;
        final int kind;

        Person(int number, int kind) { this.number = number; this.kind = kind; }

        public int number() { return number; }

        public int sees(int x) { traced.add(10); return goes(x) * 2; }

        public int waits(int x) { traced.add(11); return x ^ number; }
    }

    static class Fast extends Person {
        Fast(int number, int kind) { super(number, kind); }

        public int goes(int x) { traced.add(20); return super.goes(x) + 3; }
    }

    static class Follow extends Person {
        Follow(int number, int kind) { super(number, kind); }

        public int sees(int x) { traced.add(30); return -super.sees(x); }
    }

    static class Late extends Follow {
        Late(int number, int kind) { super(number, kind); }

        public int waits(int x) { traced.add(40); return super.waits(x) * 3; }

        public int sees(int x) { traced.add(41); return super.sees(x + 1); }
    }

    static class Lead extends Fast {
        Lead(int number, int kind) { super(number, kind); }

        public int tells(int x) { traced.add(50); return super.tells(x) ^ 5; }
    }

    static class Paid extends Lead {
        Paid(int number, int kind) { super(number, kind); }

        public int waits(int x) { traced.add(60); return super.waits(x) - goes(2); }

        public int tells(int x) { traced.add(61); return super.tells(x) + 1; }
    }

    static class Best extends Person {
        Best(int number, int kind) { super(number, kind); }

        public int goes(int x) { traced.add(70); return super.goes(x) * 2; }
    }

    static class Dog extends Best {
        Dog(int number, int kind) { super(number, kind); }

        public int sees(int x) { traced.add(80); return super.sees(x) + waits(2); }

        public int goes(int x) { traced.add(81); return super.goes(x) - 1; }
    }

    int body(int kind) {
        if (kind < 0 || kind > 7) return BAD;
        int n = bodies.size();
        if (n == 50) return FULL;
        bodies.add(switch (kind) {
            case 0 -> new Person(n, 0);
            case 1 -> new Fast(n, 1);
            case 2 -> new Follow(n, 2);
            case 3 -> new Late(n, 3);
            case 4 -> new Lead(n, 4);
            case 5 -> new Paid(n, 5);
            case 6 -> new Best(n, 6);
            default -> new Dog(n, 7);
        });
        return n;
    }

    private final List<Integer> lastTrace = new ArrayList<>();

    int act(int body, int act, int x) {
        traced.clear();
        lastTrace.clear();
        if (body < 0 || body >= bodies.size() || act < 0 || act > 3) return 0;
        Person p = bodies.get(body);
        int answer = switch (act) {
            case 0 -> p.goes(x);
            case 1 -> p.sees(x);
            case 2 -> p.waits(x);
            default -> p.tells(x);
        };
        lastTrace.addAll(traced);
        return answer;
    }

    int trace(int i) {
        return i >= 0 && i < 24 && i < lastTrace.size() ? lastTrace.get(i) : BAD;
    }

    int keep(int shelf, int body) {
        if (shelf < 0 || shelf > 5 || body < -1 || body >= bodies.size()) return BAD;
        shelves[shelf] = body < 0 ? null : bodies.get(body);
        return 1;
    }

    int row(int shelf, int sort, int n) {
        if (shelf < 0 || shelf > 5 || sort < 0 || sort > 4 || n > 60) return BAD;
        if (n < 0) return -14;
        shelves[shelf] = new Row(sort, new long[n]);
        return 1;
    }

    int put(int shelf, int i, long v) {
        if (shelf < 0 || shelf > 5) return BAD;
        if (shelves[shelf] == null) return -11;
        if (!(shelves[shelf] instanceof Row row)) return -12;
        if (i < 0 || i >= row.elements.length) return -13;
        row.elements[i] = switch (row.sort) {
            case 0 -> (byte) v;
            case 1 -> (short) v;
            case 2 -> (int) v;
            case 3 -> v;
            default -> v == 0 ? 0 : 1;
        };
        return 1;
    }

    long element(int shelf, int i) {
        if (shelf < 0 || shelf > 5 || !(shelves[shelf] instanceof Row row)) return Long.MIN_VALUE;
        return i < 0 || i >= row.elements.length ? Long.MIN_VALUE : row.elements[i];
    }

    int shift(int shelf, int i, int other, int j, int n) {
        if (shelf < 0 || shelf > 5 || other < 0 || other > 5) return BAD;
        if (shelves[shelf] == null || shelves[other] == null) return -11;
        if (!(shelves[shelf] instanceof Row from) || !(shelves[other] instanceof Row to)) return -12;
        if (from.sort != to.sort) return -12;
        if (i < 0 || j < 0 || n < 0 || n > from.elements.length - i || n > to.elements.length - j) return -13;
        long[] copy = from.elements.clone();
        for (int e = 0; e < n; e++) to.elements[j + e] = copy[i + e];
        return n;
    }

    int taken(int shelf, int k) {
        if (shelf < 0 || shelf > 5 || k < 0 || k > 7) return BAD;
        if (shelves[shelf] == null) return -11;
        if (!(shelves[shelf] instanceof Person p)) return -12;
        Class<?>[] kinds = {Person.class, Fast.class, Follow.class, Late.class, Lead.class, Paid.class,
            Best.class, Dog.class};
        return kinds[k].isInstance(p) ? p.kind : -12;
    }

    int count(int what) {
        return switch (what) {
            case 0 -> squares.size();
            case 1 -> ways.size();
            case 2 -> sorts.size();
            case 3 -> laws.size();
            case 4 -> tape.length();
            case 5 -> undoable.size();
            case 6 -> bodies.size();
            case 7 -> lastTrace.size();
            default -> BAD;
        };
    }
}
