import java.util.Random;

/** Random runs of calls, by fixed seeds, on the class and on the plain model: all answers are alike. */
public final class ModelTest {
    private static final int RUNS = 1500;
    /** An object is used for at most 512 calls; what is looked at in one step goes beyond this by some thirty. */
    private static final int CALLS = 480, MOST_CALLS = 512;
    private static final String[] NAMES = {"spring", "summer", "autumn", "winter", "plain", "quick", "slow", "orphan"};

    private final Check check;
    private final Random random;
    private final SeasonBound x = new SeasonBound();
    private final Model m = new Model();
    private int calls;

    private ModelTest(Check check, long seed) {
        this.check = check;
        this.random = new Random(seed);
    }

    public static void main(String[] args) {
        Check check = new Check();
        for (int run = 0; run < RUNS && check.wrong() == 0; run++) {
            new ModelTest(check, run).run(run);
        }
        check.finish("ModelTest");
    }

    private void run(int seed) {
        if (seed % 8 != 0) {
            tell(goodText());
        }
        // A step may make no call, where a text is too long for what is left of them.
        for (int i = 0; i < CALLS && calls < CALLS && check.wrong() == 0; i++) {
            step("seed " + seed + ", call " + calls + ": ");
        }
    }

    private void tell(String text) {
        if (calls + text.length() + 2 > MOST_CALLS) {
            return;
        }
        for (char c : text.toCharArray()) {
            same("feed " + c, x.feed(c), m.feed(c));
        }
        same("text of '" + text + "'", x.text(), m.text());
        same("fault of '" + text + "'", x.fault(), m.fault());
    }

    private void same(String call, long got, long want) {
        calls++;
        check.due(call, got, want);
    }

    private int upTo(int most) {
        return random.nextInt(most + 1);
    }

    /** Mostly within the bounds, now and then at or beyond them. */
    private int in(int least, int most) {
        switch (upTo(23)) {
            case 0: return least - 1;
            case 1: return most + 1;
            case 2: return least;
            case 3: return most;
            case 4: return upTo(3) == 0 ? new int[] {Integer.MIN_VALUE, Integer.MAX_VALUE, -4, 1 << 16}[upTo(3)] : least;
            default: return least + random.nextInt(most - least + 1);
        }
    }

    private int kid() {
        int size = m.rule(0);
        return size > 0 && upTo(9) > 0 ? random.nextInt(size) : in(0, 4);
    }

    private int span() {
        return upTo(2) == 0 ? upTo(12) : in(0, 60);
    }

    private void step(String at) {
        switch (upTo(44)) {
            case 0: tell(anyText()); break;
            case 1: { int c = in(0, 127); same(at + "feed " + c, x.feed(c), m.feed(c)); break; }
            case 2: { int n = in(0, 10); same(at + "end " + n, x.end(n), m.end(n)); break; }
            case 3: case 4: case 5: look(at); break;
            case 6: { int c = kid(), w = in(0, 1), v = w == 0 ? in(0, 3) : in(0, upTo(1) == 0 ? 99 : 20);
                same(at + "alter", x.alter(c, w, v), m.alter(c, w, v)); break; }
            case 7: { int s = in(0, 3), w = in(0, 2), v = w == 0 ? in(1, 9) : w == 1 ? in(0, 9) : in(0, 99);
                same(at + "set", x.set(s, w, v), m.set(s, w, v)); break; }
            case 8: case 9: case 10: { int c = kid(), s = in(0, 3), t = upTo(1) == 0 ? in(1, 99) : in(1, 12);
                same(at + "bind", x.bind(c, s, t), m.bind(c, s, t)); break; }
            case 11: { int c = kid(); same(at + "free", x.free(c), m.free(c)); break; }
            case 12: { int k = in(0, 3); same(at + "born", x.born(k), m.born(k)); break; }
            case 13: case 14: { int n = upTo(1) == 0 ? in(0, 30) : upTo(4); same(at + "weeks " + n, x.weeks(n), m.weeks(n)); break; }
            case 15: case 16: { int n = span(), w = in(0, 4); same(at + "runs " + n + " " + w, x.runs(n, w), m.runs(n, w)); break; }
            case 17: { int c = kid(), n = span(), w = in(0, 2); same(at + "ahead", x.ahead(c, n, w), m.ahead(c, n, w)); break; }
            case 18: { int c = kid(); same(at + "home " + c, x.home(c), m.home(c)); break; }
            case 19: { int c = kid(), d = kid(); same(at + "meet", x.meet(c, d), m.meet(c, d)); break; }
            case 20: { int c = kid(), n = span(), w = in(0, 1); same(at + "place", x.place(c, n, w), m.place(c, n, w)); break; }
            case 21: case 22: { int n = span(), w = in(0, 1); same(at + "swap " + n, x.swap(n, w), m.swap(n, w)); break; }
            case 23: { int s = in(0, 3), n = span(), w = in(0, 1); same(at + "span", x.span(s, n, w), m.span(s, n, w)); break; }
            case 24: { int n = span(), w = in(0, 1); same(at + "gift " + n, x.gift(n, w), m.gift(n, w)); break; }
            case 25: { int c = kid(), n = span(), k = in(0, upTo(1) == 0 ? 99 : 20); same(at + "term", x.term(c, n, k), m.term(c, n, k)); break; }
            case 26: { int c = kid(), n = span(), w = in(0, 1); same(at + "kind", x.kind(c, n, w), m.kind(c, n, w)); break; }
            case 27: { int v = in(0, 10), c = kid(), n = in(0, 8), k = in(0, upTo(1) == 0 ? 99 : 15), w = in(0, 1);
                same(at + "luck", x.luck(v, c, n, k, w), m.luck(v, c, n, k, w)); break; }
            case 28: { int v = in(0, 10), n = in(0, 8), w = in(0, 1); same(at + "mean", x.mean(v, n, w), m.mean(v, n, w)); break; }
            case 29: case 30: { int n = in(0, 30), c = kid();
                // What will be is seen more often than not: else hardly ever would anything fit.
                int k = upTo(5) > 0 && m.ahead(c, Math.abs(n % 31), 0) >= 0 ? m.ahead(c, Math.abs(n % 31), 0) : in(0, 99);
                same(at + "see", x.see(n, c, k), m.see(n, c, k)); break; }
            case 31: { int n = in(0, 6); same(at + "forget " + n, x.forget(n), m.forget(n)); break; }
            case 32: { int c = kid(); same(at + "kinds " + c, x.kinds(c), m.kinds(c)); break; }
            case 33: { int c = kid(); same(at + "seasons " + c, x.seasons(c), m.seasons(c)); break; }
            case 34: { int s = in(0, 3); same(at + "gifts " + s, x.gifts(s), m.gifts(s)); break; }
            case 35: { int s = in(0, 3), w = in(0, 1); same(at + "ask " + s + " " + w, x.ask(s, w), m.ask(s, w)); break; }
            case 36: { int seed = random.nextInt(), n = in(1, 60), w = in(0, 1); same(at + "drift", x.drift(seed, n, w), m.drift(seed, n, w)); break; }
            case 37: { int k = in(0, 1); same(at + "keep " + k, x.keep(k), m.keep(k)); break; }
            case 38: { int k = in(0, 1); same(at + "back " + k, x.back(k), m.back(k)); break; }
            case 39: { int k = in(0, 3), l = in(0, 2), n = in(0, 40); same(at + "sheet", x.sheet(k, l, n), m.sheet(k, l, n)); break; }
            case 40: layRow(at); break;
            default: { int k = in(0, 3), l = in(0, 2), f = upTo(1) == 0 ? 0 : in(0, 40), n = upTo(1) == 0 ? upTo(4) : in(0, 13);
                same(at + "read", x.read(k, l, f, n), m.read(k, l, f, n));
                same(at + "torn", x.torn(), m.torn()); break; }
        }
    }

    private void look(String at) {
        for (int w = -1; w <= 6; w++) {
            same(at + "rule " + w, x.rule(w), m.rule(w));
            same(at + "count " + w, x.count(w), m.count(w));
        }
        int c = kid();
        int s = in(0, 3);
        for (int w = -1; w <= 6; w++) {
            same(at + "child " + c + " " + w, x.child(c, w), m.child(c, w));
            same(at + "season " + s + " " + w, x.season(s, w), m.season(s, w));
        }
    }

    private void layRow(String at) {
        int k = in(0, 3);
        int from = upTo(1) == 0 ? 0 : in(0, 40);
        for (int i = 0; i < 1 + upTo(3); i++) {
            int[] three = {kid(), in(0, 3), upTo(9) == 0 ? random.nextInt() : in(1, 99)};
            for (int j = 0; j < 3; j++) {
                int cell = from + 3 * i + j;
                same(at + "lay", x.lay(k, cell, three[j]), m.lay(k, cell, three[j]));
            }
        }
    }

    private String goodText() {
        StringBuilder text = new StringBuilder();
        int kids = upTo(5);
        for (int i = 0; i < kids; i++) {
            text.append(NAMES[4 + upTo(3)]).append(blanks(1)).append(upTo(4) == 0 ? 9 : upTo(3));
            text.append(blanks(1)).append(1 + upTo(upTo(1) == 0 ? 98 : 11)).append(blanks(0)).append(';');
        }
        for (int s = 0; s < 4; s++) {
            if (upTo(1) == 0) {
                text.append(NAMES[s]).append(blanks(0)).append(1 + upTo(8)).append(blanks(1)).append(upTo(9));
                text.append(blanks(1)).append(upTo(99)).append(";");
            }
        }
        return text.toString();
    }

    private String blanks(int least) {
        return "   ".substring(0, Math.min(3, least + (upTo(5) == 0 ? 1 : 0)));
    }

    /** A good text with a few letters changed, left out, put in or cut off; or a rubble of tokens. */
    private String anyText() {
        StringBuilder text = new StringBuilder();
        if (upTo(3) == 0) {
            String[] tokens = {"0", "9", "12", "4", "100", ";", " ", "x", "#", "springs", "007"};
            for (int i = 0; i < upTo(30); i++) {
                text.append(upTo(2) == 0 ? NAMES[upTo(7)] : tokens[upTo(tokens.length - 1)]).append(upTo(3) == 0 ? "" : " ");
            }
            return text.toString();
        }
        text.append(goodText());
        for (int changes = upTo(2); changes > 0 && text.length() > 0; changes--) {
            int at = random.nextInt(text.length());
            char c = "abz059; ~A".charAt(upTo(9));
            switch (upTo(3)) {
                case 0: text.setCharAt(at, c); break;
                case 1: text.deleteCharAt(at); break;
                case 2: text.insert(at, c); break;
                default: text.setLength(at); break;
            }
        }
        return text.toString();
    }
}
