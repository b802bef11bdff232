import java.util.Random;

/** Runs of calls, drawn from told seeds, on the program and on the reference: the same answers. */
public final class AgainstReferenceTest {
    private static final int RUNS = 120, CALLS = 512;
    private static final String[] TEXTS = {"f", "m<9?1;q", "o-h>9?f;w", "h>o/2&m>5?(f+1)%4;f", "(m+k)%4", "n>5?2;!w",
        "m%7=3?3;h<9|o>20?-k+3;w*2", "q=f?q;f", "k%2?m/4%4;f;9/0", "o=h?(q+1)%3;m<k*3?f;q", "3", "-1", "!q", "f=q&n<9?0;f"};

    public static void main(String[] args) {
        for (int seed = 0; seed < RUNS; seed++) {
            new AgainstReferenceTest(seed).play();
        }
        Check.end();
    }

    private final Random random;
    private final FullerSquare program = new FullerSquare();
    private final Reference reference = new Reference();
    private final int seed;
    private int calls = 0;
    private int heavy = 0;
    private int heavyMost = 6;

    private AgainstReferenceTest(int seed) {
        this.seed = seed;
        this.random = new Random(seed);
    }

    private void same(String call, long got, long want) {
        calls++;
        Check.due("seed " + seed + ", call " + calls + ": " + call, got, want);
    }

    private int upTo(int n) {
        return random.nextInt(n + 1);
    }

    /** Mostly from least to most, at times a bit or far outside. */
    private int about(int least, int most) {
        int kind = upTo(60);
        if (kind == 0) return least - 1;
        if (kind == 1) return most + 1;
        if (kind == 2) return random.nextInt();
        if (kind == 3) return random.nextBoolean() ? Integer.MIN_VALUE : Integer.MAX_VALUE;
        return least + upTo(most - least);
    }

    private void play() {
        if (upTo(9) > 0) build();
        while (calls < CALLS - 130) any();
    }

    private void build() {
        int squares = 1 + upTo(3);
        for (int i = 0; i < squares; i++) square();
        int ways = upTo(12);
        for (int i = 0; i < ways; i++) way();
        int laws = upTo(4);
        for (int i = 0; i < laws; i++) text();
        int sorts = 1 + upTo(7);
        for (int i = 0; i < sorts; i++) sort();
    }

    private void square() {
        int holds = upTo(1) == 0 ? upTo(60) : about(0, 999);
        int what = about(0, 2);
        same("square(" + holds + ", " + what + ")", program.square(holds, what), reference.square(holds, what));
    }

    private void way() {
        int ab = 10 * about(0, Math.max(0, reference.squares.size() - 1)) + about(0, 3);
        int minutes = upTo(2) > 0 ? 1 + upTo(5) : about(1, 30), most = upTo(1) == 0 ? 1 + upTo(9) : about(1, 99);
        same("way(" + ab + ", " + minutes + ", " + most + ")", program.way(ab, minutes, most),
            reference.way(ab, minutes, most));
    }

    private void sort() {
        int mw = 10 * (upTo(3) > 0 ? upTo(40) : about(0, 200)) + about(0, 1);
        int sp = 10 * about(0, Math.max(0, reference.squares.size() - 1)) + about(1, 3);
        int law = about(0, 3);
        same("sort(" + mw + ", " + sp + ", " + law + ")", program.sort(mw, sp, law), reference.sort(mw, sp, law));
    }

    private void text() {
        String text = TEXTS[upTo(TEXTS.length - 1)];
        int kind = upTo(9);
        if (kind < 4) text = lines();
        if (kind == 0) text = spoiled(text);
        for (int i = 0; i < text.length(); i++) feed(text.charAt(i));
        same("law() of " + text, program.law(), reference.law());
    }

    private void feed(int letter) {
        same("feed(" + letter + ")", program.feed(letter), reference.feed(letter));
    }

    private String lines() {
        StringBuilder s = new StringBuilder();
        int lines = 1 + upTo(2);
        for (int i = 0; i < lines; i++) {
            if (i > 0) s.append(';');
            s.append(part(3));
            if (upTo(2) > 0) s.append('?').append(part(2));
        }
        return s.length() > 40 ? TEXTS[upTo(TEXTS.length - 1)] : s.toString();
    }

    private String part(int depth) {
        if (depth == 0) {
            return upTo(2) == 0 ? String.valueOf(upTo(12)) : String.valueOf("mkwqnfoh".charAt(upTo(7)));
        }
        int kind = upTo(8);
        if (kind == 0) return "(" + part(depth - 1) + ")";
        if (kind == 1) return "!" + part(0);
        if (kind == 2) return "-" + part(0);
        if (kind < 6) return part(depth - 1);
        return part(depth - 1) + "|&<=>+-*/%%+".charAt(upTo(11)) + part(depth - 1);
    }

    private String spoiled(String text) {
        int at = upTo(text.length());
        String put = String.valueOf("()!-?;<|z 9\u00e9".charAt(upTo(11)));
        return text.substring(0, at) + put + text.substring(Math.min(text.length(), at + upTo(1)));
    }

    private void any() {
        switch (upTo(34)) {
            case 0 -> square();
            case 1 -> way();
            case 2 -> sort();
            case 3 -> sortsFromRow();
            case 4 -> { if (upTo(2) == 0) text(); else feed(about(0, 255)); }
            case 5 -> setAny();
            case 6, 7, 8 -> mend();
            case 9 -> ofAny();
            case 10, 11, 12 -> runs();
            case 13, 14, 15, 16, 17, 18 -> thoughts();
            case 19, 20 -> same("undo()", program.undo(), reference.undo());
            case 21 -> same("redo()", program.redo(), reference.redo());
            case 22, 23, 24 -> bodies();
            case 25, 26, 27, 28, 29, 30 -> shelves();
            case 31 -> noon();
            case 32 -> bell();
            default -> {
                int what = about(0, 7);
                same("count(" + what + ")", program.count(what), reference.count(what));
            }
        }
    }

    private void sortsFromRow() {
        int shelf = about(0, 5), i = about(0, 9), n = about(1, 8);
        if (upTo(3) == 0) fillSorts(Math.max(0, Math.min(5, shelf)));
        same("sorts(" + shelf + ", " + i + ", " + n + ")", program.sorts(shelf, i, n), reference.sorts(shelf, i, n));
    }

    private void row(int shelf, int sort, int n) {
        same("row(" + shelf + ", " + sort + ", " + n + ")", program.row(shelf, sort, n), reference.row(shelf, sort, n));
    }

    private void put(int shelf, int i, long v) {
        same("put(" + shelf + ", " + i + ", " + v + ")", program.put(shelf, i, v), reference.put(shelf, i, v));
    }

    private void fillSorts(int shelf) {
        int n = 3 + upTo(9);
        row(shelf, 1, n);
        for (int i = 0; i < n; i++) {
            put(shelf, i, i % 3 == 0 ? 10 * upTo(50) + upTo(1) : i % 3 == 1 ? 10 * upTo(1) + 1 + upTo(2) : about(0, 3));
        }
    }

    private void setAny() {
        int what = about(0, 2);
        int v = what == 0 ? about(1, 60) : what == 1 ? about(0, 9) : about(0, 20);
        same("set(" + what + ", " + v + ")", program.set(what, v), reference.set(what, v));
    }

    private void mend() {
        int what = about(0, 1);
        int number = about(0, what == 0 ? 7 : 3);
        int v = upTo(2) > 0 ? upTo(60) : about(0, what == 0 ? 200 : 999);
        if (upTo(4) == 0) v = Math.max(0, reference.of(number, 10 * what));
        same("mend(" + number + ", " + what + ", " + v + ")", program.mend(number, what, v),
            reference.mend(number, what, v));
    }

    private void ofAny() {
        int number = about(0, 7), what = upTo(3) == 0 ? about(0, 25) : 10 * upTo(2) + upTo(4);
        same("of(" + number + ", " + what + ")", program.of(number, what), reference.of(number, what));
    }

    private void runs() {
        if (upTo(3) == 0) same("run()", program.run(), reference.run());
        for (int i = 0; i < 3; i++) {
            int t = about(0, 60), q = about(0, 3), k = about(-1, 7);
            same("led(" + t + ", " + q + ", " + k + ")", program.led(t, q, k), reference.led(t, q, k));
        }
        int what = upTo(1) == 0 ? about(0, 4) : about(10, 13);
        same("told(" + what + ")", program.told(what), reference.told(what));
    }

    private void thoughts() {
        int kab = 100 * about(0, 7) + 10 * upTo(3) + upTo(3);
        switch (upTo(7)) {
            case 0 -> same("last(" + kab + ")", program.last(kab), reference.last(kab));
            case 1 -> same("flow(" + kab + ")", program.flow(kab), reference.flow(kab));
            case 2 -> {
                int what = about(0, 1);
                same("fewer(" + what + ")", program.fewer(what), reference.fewer(what));
            }
            case 3 -> {
                int lag = about(0, 9);
                same("sooner(" + lag + ")", program.sooner(lag), reference.sooner(lag));
            }
            case 4 -> {
                int sort = about(0, 7);
                same("serves(" + sort + ")", program.serves(sort), reference.serves(sort));
            }
            default -> heavyThoughts();
        }
    }

    private void heavyThoughts() {
        if (heavy++ >= heavyMost) return;
        switch (upTo(2)) {
            case 0 -> {
                int z = random.nextInt(), nd = 10 * about(1, 20) + about(0, 2);
                same("often(" + z + ", " + nd + ")", program.often(z, nd), reference.often(z, nd));
            }
            case 1 -> {
                int q = about(0, Math.max(0, reference.squares.size() - 1));
                same("paid(" + q + ")", program.paid(q), reference.paid(q));
            }
            default -> {
                int kd = 10 * about(0, 7) + about(0, 3);
                same("lead(" + kd + ")", program.lead(kd), reference.lead(kd));
            }
        }
    }

    private void bodies() {
        int kind = about(0, 7), body = about(0, 12), act = about(0, 3), x = upTo(2) > 0 ? upTo(99) : random.nextInt();
        if (upTo(1) == 0) same("body(" + kind + ")", program.body(kind), reference.body(kind));
        same("act(" + body + ", " + act + ", " + x + ")", program.act(body, act, x), reference.act(body, act, x));
        for (int i = upTo(5); i < 12; i += 3) same("trace(" + i + ")", program.trace(i), reference.trace(i));
    }

    private void shelves() {
        int shelf = about(0, 5), other = about(0, 5), i = about(0, 12), j = about(0, 12);
        switch (upTo(7)) {
            case 0 -> {
                int body = about(-1, 9);
                same("keep(" + shelf + ", " + body + ")", program.keep(shelf, body), reference.keep(shelf, body));
            }
            case 1 -> row(shelf, about(0, 4), upTo(2) == 0 ? about(0, 60) : upTo(15));
            case 2, 3 -> put(shelf, i, upTo(1) == 0 ? upTo(300) - 100 : random.nextLong());
            case 4 -> same("element(" + shelf + ", " + i + ")", program.element(shelf, i), reference.element(shelf, i));
            case 5, 6 -> {
                int n = about(0, 9);
                same("shift(" + shelf + ", " + i + ", " + other + ", " + j + ", " + n + ")",
                    program.shift(shelf, i, other, j, n), reference.shift(shelf, i, other, j, n));
            }
            default -> {
                int k = about(0, 7);
                same("taken(" + shelf + ", " + k + ")", program.taken(shelf, k), reference.taken(shelf, k));
            }
        }
    }

    private void noon() {
        int shelf = about(0, 5);
        if (upTo(3) > 0) {
            row(shelf, 1, 4);
            for (int i = 0; i < 4; i++) put(shelf, i, upTo(2) == 0 ? 0 : upTo(80));
        }
        same("judge(" + shelf + ")", program.judge(shelf), reference.judge(shelf));
    }

    private void bell() {
        int shelf = about(0, 5), thing = about(0, 2);
        if (upTo(3) > 0) {
            int e = upTo(9), w = upTo(99);
            row(shelf, 0, 10 + upTo(2));
            put(shelf, e, w);
            put(shelf, (e + 1 + upTo(9)) % 10, upTo(9) == 0 ? 101 - w : 100 - w);
        }
        same("bell(" + shelf + ", " + thing + ")", program.bell(shelf, thing), reference.bell(shelf, thing));
    }
}
