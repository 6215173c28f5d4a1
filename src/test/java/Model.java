import java.math.BigInteger;
import java.util.ArrayList;
import java.util.HashMap;
import java.util.List;
import java.util.Map;
import java.util.function.Consumer;
import java.util.function.ToIntFunction;

/**
 * The document once more, written for plainness alone: every question copies the whole state and
 * tries all that may be. What the class answers by a shorter way is measured against it.
 */
final class Model {
    static final int BAD = -1, STATE = -2, FULL = -3, NONE = -4;

    static final class Kid {
        int kind, season = -1, term, skill, age;

        Kid copy() {
            Kid k = new Kid();
            k.kind = kind;
            k.season = season;
            k.term = term;
            k.skill = skill;
            k.age = age;
            return k;
        }

        boolean free() {
            return season < 0;
        }
    }

    static final class State {
        int[] length = {3, 3, 3, 3}, gift = {1, 1, 1, 1}, most = {99, 99, 99, 99};
        List<Kid> kids = new ArrayList<>();
        int now, left = 3, week;
        List<int[]> seen = new ArrayList<>();

        State copy() {
            State s = new State();
            s.length = length.clone();
            s.gift = gift.clone();
            s.most = most.clone();
            for (Kid k : kids) {
                s.kids.add(k.copy());
            }
            s.now = now;
            s.left = left;
            s.week = week;
            s.seen.addAll(seen);
            return s;
        }

        boolean lives(Kid k) {
            return k.free() || k.season == now;
        }

        void week(boolean letOff) {
            for (Kid k : kids) {
                if (!lives(k)) {
                    continue;
                }
                if (k.age < 999) {
                    k.age++;
                }
                if (!k.free()) {
                    if (!letOff && k.skill < most[k.season]) {
                        k.skill += learns(k);
                        if (k.skill > most[k.season]) {
                            k.skill = most[k.season];
                        }
                    }
                    k.term--;
                    if (k.term == 0) {
                        k.season = -1;
                    }
                }
            }
            left--;
            if (left == 0) {
                now++;
                if (now == 4) {
                    now = 0;
                }
                left = length[now];
            }
            week++;
        }

        int learns(Kid k) {
            int plain = gift[k.season];
            int slow = plain / 2 + plain % 2;
            return new int[] {plain, plain + plain, slow, slow + 1}[k.kind];
        }

        State after(int n) {
            State s = copy();
            for (int i = 0; i < n; i++) {
                s.week(false);
            }
            return s;
        }

        State with(Consumer<State> change) {
            State s = copy();
            change.accept(s);
            return s;
        }

        int skills() {
            return kids.stream().mapToInt(k -> k.skill).sum();
        }

        int ages() {
            return kids.stream().mapToInt(k -> k.age).sum();
        }

        int bits(ToIntFunction<Kid> one) {
            int bits = 0;
            for (int c = 0; c < kids.size(); c++) {
                if (one.applyAsInt(kids.get(c)) != 0) {
                    bits += (int) Math.pow(2, c);
                }
            }
            return bits;
        }

        boolean asSeen() {
            for (int[] s : seen) {
                if (after(s[0]).kids.get(s[1]).skill != s[2]) {
                    return false;
                }
            }
            return true;
        }

        int bind(int c, int s, int term) {
            if (c < 0 || c >= kids.size() || s < 0 || s > 3 || term < 1 || term > 99) {
                return BAD;
            }
            Kid k = kids.get(c);
            if (!k.free()) {
                return STATE;
            }
            k.season = s;
            k.term = term;
            return (int) kids.stream().filter(o -> o.season == s).count();
        }
    }

    private State st = new State();
    private final StringBuilder tape = new StringBuilder();
    private final State[] images = new State[2];
    private final Object[] sheets = new Object[4];
    private int fault, torn;

    private boolean noKid(int c) {
        return c < 0 || c >= st.kids.size();
    }

    private static boolean out(int v, int least, int most) {
        return v < least || v > most;
    }

    int feed(int c) {
        if (out(c, 0, 127)) {
            return BAD;
        }
        if (tape.length() == 160) {
            return FULL;
        }
        tape.append((char) c);
        return tape.length();
    }

    int end(int n) {
        if (out(n, 0, tape.length())) {
            return BAD;
        }
        int had = tape.length();
        tape.setLength(n);
        return had;
    }

    private static final class Fault extends Exception {
        private static final long serialVersionUID = 1L;
        final int number, place;

        Fault(int number, int place) {
            this.number = number;
            this.place = place;
        }
    }

    private static final class Lexer {
        final String text;
        int at;
        int place;

        Lexer(String text) {
            this.text = text;
        }

        /** The next token; empty at the end. */
        String next() throws Fault {
            while (at < text.length() && text.charAt(at) == ' ') {
                at++;
            }
            place = at;
            for (String shape : new String[] {"[a-z]+", "[0-9]+", ";"}) {
                java.util.regex.Matcher m = java.util.regex.Pattern.compile(shape).matcher(text);
                m.region(at, text.length());
                if (m.lookingAt()) {
                    at = m.end();
                    if (shape.equals("[0-9]+") && m.group().length() > 2) {
                        throw new Fault(1, place);
                    }
                    return m.group();
                }
            }
            if (at == text.length()) {
                return "";
            }
            throw new Fault(1, place);
        }

        int number(int... allowed) throws Fault {
            String t = next();
            if (!t.matches("[0-9]+")) {
                throw new Fault(2, place);
            }
            for (int a : allowed) {
                if (a == Integer.parseInt(t)) {
                    return a;
                }
            }
            throw new Fault(3, place);
        }

        void stop() throws Fault {
            if (!next().equals(";")) {
                throw new Fault(2, place);
            }
        }
    }

    private static int[] range(int from, int to) {
        return java.util.stream.IntStream.rangeClosed(from, to).toArray();
    }

    int text() {
        Lexer lexer = new Lexer(tape.toString());
        tape.setLength(0);
        State fresh = new State();
        List<String> seasonNames = List.of("spring", "summer", "autumn", "winter");
        List<String> kindNames = List.of("plain", "quick", "slow", "orphan");
        List<String> told = new ArrayList<>();
        int lines = 0;
        try {
            for (String name = lexer.next(); !name.isEmpty(); name = lexer.next()) {
                if (seasonNames.contains(name)) {
                    if (told.contains(name)) {
                        throw new Fault(4, lexer.place);
                    }
                    told.add(name);
                    int s = seasonNames.indexOf(name);
                    fresh.length[s] = lexer.number(range(1, 9));
                    fresh.gift[s] = lexer.number(range(0, 9));
                    fresh.most[s] = lexer.number(range(0, 99));
                } else if (kindNames.contains(name)) {
                    if (fresh.kids.size() == 5) {
                        throw new Fault(5, lexer.place);
                    }
                    Kid k = new Kid();
                    k.kind = kindNames.indexOf(name);
                    int s = lexer.number(0, 1, 2, 3, 9);
                    int term = lexer.number(range(1, 99));
                    if (s != 9) {
                        k.season = s;
                        k.term = term;
                    }
                    fresh.kids.add(k);
                } else {
                    throw new Fault(2, lexer.place);
                }
                lexer.stop();
                lines++;
            }
        } catch (Fault f) {
            fault = f.number;
            return -10 - f.place;
        }
        fault = 0;
        fresh.left = fresh.length[0];
        st = fresh;
        images[0] = null;
        images[1] = null;
        return lines;
    }

    int fault() {
        return fault;
    }

    int rule(int what) {
        return switch (what) {
            case 0 -> st.kids.size();
            case 1 -> st.week;
            case 2 -> st.now;
            case 3 -> st.left;
            case 4 -> st.bits(k -> st.lives(k) ? 1 : 0);
            case 5 -> st.skills();
            default -> BAD;
        };
    }

    int child(int c, int what) {
        if (noKid(c)) {
            return BAD;
        }
        Kid k = st.kids.get(c);
        return switch (what) {
            case 0 -> k.kind;
            case 1 -> k.free() ? NONE : k.season;
            case 2 -> k.term;
            case 3 -> k.skill;
            case 4 -> k.age;
            case 5 -> k.free() ? NONE : st.learns(k);
            default -> BAD;
        };
    }

    int season(int s, int what) {
        if (out(s, 0, 3)) {
            return BAD;
        }
        return switch (what) {
            case 0 -> st.length[s];
            case 1 -> st.gift[s];
            case 2 -> st.most[s];
            case 3 -> st.bits(k -> k.season == s ? 1 : 0);
            default -> BAD;
        };
    }

    int alter(int c, int what, int v) {
        if (noKid(c) || out(what, 0, 1) || out(v, 0, what == 0 ? 3 : 99)) {
            return BAD;
        }
        int was = child(c, what == 0 ? 0 : 3);
        if (what == 0) {
            st.kids.get(c).kind = v;
        } else {
            st.kids.get(c).skill = v;
        }
        return was;
    }

    int set(int s, int what, int v) {
        if (out(s, 0, 3) || out(what, 0, 2) || out(v, what == 0 ? 1 : 0, what == 2 ? 99 : 9)) {
            return BAD;
        }
        int[] row = what == 0 ? st.length : what == 1 ? st.gift : st.most;
        int was = row[s];
        row[s] = v;
        return was;
    }

    int bind(int c, int s, int term) {
        return st.bind(c, s, term);
    }

    int free(int c) {
        if (noKid(c)) {
            return BAD;
        }
        Kid k = st.kids.get(c);
        if (k.free()) {
            return STATE;
        }
        int had = k.term;
        k.season = -1;
        k.term = 0;
        return had;
    }

    int born(int kind) {
        if (out(kind, 0, 3)) {
            return BAD;
        }
        if (st.kids.size() == 5) {
            return FULL;
        }
        Kid k = new Kid();
        k.kind = kind;
        st.kids.add(k);
        return st.kids.size();
    }

    int weeks(int n) {
        if (out(n, 0, 30)) {
            return BAD;
        }
        if (st.week + n >= 1000) {
            return FULL;
        }
        int before = st.skills();
        st = st.after(n);
        return st.skills() - before;
    }

    int runs(int n, int what) {
        if (out(n, 0, 60) || out(what, 0, 4)) {
            return BAD;
        }
        State then = st.after(n);
        if (what == 2) {
            int nobody = 0;
            for (int i = 0; i < n; i++) {
                State week = st.after(i);
                if (week.kids.stream().noneMatch(week::lives)) {
                    nobody++;
                }
            }
            return nobody;
        }
        return what == 0 ? then.skills() : what == 1 ? then.bits(k -> k.free() ? 1 : 0)
                : what == 3 ? then.ages() : then.now;
    }

    int ahead(int c, int n, int what) {
        if (noKid(c) || out(n, 0, 60) || out(what, 0, 2)) {
            return BAD;
        }
        Kid k = st.after(n).kids.get(c);
        return what == 0 ? k.skill : what == 1 ? k.age : k.term;
    }

    int home(int c) {
        if (noKid(c)) {
            return BAD;
        }
        for (int n = 0; n <= 60; n++) {
            if (st.after(n).kids.get(c).free()) {
                return n;
            }
        }
        return NONE;
    }

    int meet(int c, int d) {
        if (noKid(c) || noKid(d) || c == d) {
            return BAD;
        }
        for (int n = 0; n <= 60; n++) {
            State then = st.after(n);
            if (then.lives(then.kids.get(c)) && then.lives(then.kids.get(d))) {
                return n;
            }
        }
        return NONE;
    }

    /** The first key whose value is most, if above the floor. */
    private static int pick(Map<Integer, Integer> values, int floor, int what) {
        int most = values.values().stream().mapToInt(v -> v).max().orElse(floor);
        if (most <= floor) {
            return NONE;
        }
        int least = values.keySet().stream().filter(k -> values.get(k) == most).mapToInt(k -> k).min().getAsInt();
        return what == 0 ? least : most;
    }

    int place(int c, int n, int what) {
        if (noKid(c) || out(n, 0, 60) || out(what, 0, 1)) {
            return BAD;
        }
        Map<Integer, Integer> values = new HashMap<>();
        for (int s = 0; s < 4; s++) {
            int to = s;
            values.put(s, st.with(w -> {
                Kid k = w.kids.get(c);
                k.term = k.free() ? 12 : k.term;
                k.season = to;
            }).after(n).kids.get(c).skill);
        }
        return pick(values, -1, what);
    }

    int swap(int n, int what) {
        if (out(n, 0, 60) || out(what, 0, 1)) {
            return BAD;
        }
        Map<Integer, Integer> values = new HashMap<>();
        for (int c = 0; c < st.kids.size(); c++) {
            for (int d = c + 1; d < st.kids.size(); d++) {
                State w = st.copy();
                Kid a = w.kids.get(c);
                Kid b = w.kids.get(d);
                if (!a.free() && !b.free()) {
                    int was = a.season;
                    a.season = b.season;
                    b.season = was;
                    values.put(10 * c + d, w.after(n).skills());
                }
            }
        }
        return pick(values, st.after(n).skills(), what);
    }

    int span(int s, int n, int what) {
        if (out(s, 0, 3) || out(n, 0, 60) || out(what, 0, 1)) {
            return BAD;
        }
        Map<Integer, Integer> values = new HashMap<>();
        for (int l = 1; l <= 9; l++) {
            int length = l;
            values.put(l, st.with(w -> w.length[s] = length).after(n).skills());
        }
        return pick(values, -1, what);
    }

    int gift(int n, int what) {
        if (out(n, 0, 60) || out(what, 0, 1)) {
            return BAD;
        }
        Map<Integer, Integer> values = new HashMap<>();
        for (int s = 0; s < 4; s++) {
            int of = s;
            values.put(s, st.with(w -> w.gift[of] = Math.min(9, w.gift[of] + 1)).after(n).skills());
        }
        return pick(values, st.after(n).skills(), what);
    }

    int term(int c, int n, int k) {
        if (noKid(c) || out(n, 0, 60) || out(k, 0, 99)) {
            return BAD;
        }
        if (st.kids.get(c).free()) {
            return STATE;
        }
        for (int t = 1; t <= 99; t++) {
            int term = t;
            if (st.with(w -> w.kids.get(c).term = term).after(n).kids.get(c).skill >= k) {
                return t;
            }
        }
        return NONE;
    }

    int kind(int c, int n, int what) {
        if (noKid(c) || out(n, 0, 60) || out(what, 0, 1)) {
            return BAD;
        }
        Map<Integer, Integer> values = new HashMap<>();
        for (int k = 0; k < 4; k++) {
            int kind = k;
            values.put(k, st.with(w -> w.kids.get(c).kind = kind).after(n).skills());
        }
        return pick(values, -1, what);
    }

    /** Sums over all ways in which weeks are let off: v to a week that is, 10 less v to one that is not. */
    private long overAllWays(int v, int n, int what, ToIntFunction<State> value) {
        BigInteger sum = BigInteger.ZERO;
        for (int way = 0; way < 1 << n; way++) {
            State w = st.copy();
            BigInteger weight = BigInteger.ONE;
            for (int i = 0; i < n; i++) {
                boolean off = (way >> i & 1) == 1;
                w.week(off);
                weight = weight.multiply(BigInteger.valueOf(off ? v : 10 - v));
            }
            sum = sum.add(weight.multiply(BigInteger.valueOf(value.applyAsInt(w))));
        }
        BigInteger below = BigInteger.TEN.pow(n);
        BigInteger shared = sum.gcd(below);
        return (what == 0 ? sum : below).divide(shared).longValueExact();
    }

    long luck(int v, int c, int n, int k, int what) {
        if (out(v, 0, 10) || noKid(c) || out(n, 0, 8) || out(k, 0, 99) || out(what, 0, 1)) {
            return BAD;
        }
        return overAllWays(v, n, what, w -> w.kids.get(c).skill >= k ? 1 : 0);
    }

    long mean(int v, int n, int what) {
        if (out(v, 0, 10) || out(n, 0, 8) || out(what, 0, 1)) {
            return BAD;
        }
        return overAllWays(v, n, what, State::skills);
    }

    int see(int n, int c, int k) {
        if (out(n, 0, 30) || noKid(c) || out(k, 0, 99)) {
            return BAD;
        }
        if (st.seen.size() == 6) {
            return FULL;
        }
        st.seen.add(new int[] {n, c, k});
        return st.seen.size();
    }

    int forget(int n) {
        int were = st.seen.size();
        if (out(n, 0, were)) {
            return BAD;
        }
        st.seen = new ArrayList<>(st.seen.subList(0, n));
        return were;
    }

    int kinds(int c) {
        if (noKid(c)) {
            return BAD;
        }
        int bits = 0;
        for (int k = 0; k < 4; k++) {
            int kind = k;
            bits |= st.with(w -> w.kids.get(c).kind = kind).asSeen() ? 1 << k : 0;
        }
        return bits;
    }

    int seasons(int c) {
        if (noKid(c)) {
            return BAD;
        }
        if (st.kids.get(c).free()) {
            return STATE;
        }
        int bits = 0;
        for (int s = 0; s < 4; s++) {
            int season = s;
            bits |= st.with(w -> w.kids.get(c).season = season).asSeen() ? 1 << s : 0;
        }
        return bits;
    }

    int gifts(int s) {
        if (out(s, 0, 3)) {
            return BAD;
        }
        int bits = 0;
        for (int g = 0; g < 10; g++) {
            int gift = g;
            bits |= st.with(w -> w.gift[s] = gift).asSeen() ? 1 << g : 0;
        }
        return bits;
    }

    int ask(int s, int what) {
        if (out(s, 0, 3) || out(what, 0, 1)) {
            return BAD;
        }
        int fitting = gifts(s);
        int fewest = Integer.bitCount(fitting);
        int question = NONE;
        for (int n = 0; n <= 30; n++) {
            for (int c = 0; c < st.kids.size(); c++) {
                int[] bySkill = new int[100];
                int worst = 0;
                for (int g = 0; g < 10; g++) {
                    if ((fitting >> g & 1) == 1) {
                        int gift = g;
                        int skill = st.with(w -> w.gift[s] = gift).after(n).kids.get(c).skill;
                        worst = Math.max(worst, ++bySkill[skill]);
                    }
                }
                if (worst < fewest) {
                    fewest = worst;
                    question = 10 * n + c;
                }
            }
        }
        return question == NONE ? NONE : what == 0 ? question : fewest;
    }

    int drift(int seed, int n, int what) {
        if (out(n, 1, 60) || out(what, 0, 1)) {
            return BAD;
        }
        if (st.kids.isEmpty()) {
            return STATE;
        }
        State w = st.copy();
        BigInteger x = BigInteger.valueOf(seed);
        for (int i = 0; i < n; i++) {
            x = x.multiply(BigInteger.valueOf(1103515245)).add(BigInteger.valueOf(12345));
            int got = x.shiftRight(16).and(BigInteger.valueOf(32767)).intValueExact();
            Kid k = w.kids.get(got % w.kids.size());
            if (k.free()) {
                k.season = got / 8 % 4;
                k.term = 1 + got / 32 % 9;
            }
            w.week(false);
        }
        return what == 0 ? w.skills() : w.ages();
    }

    int keep(int k) {
        if (out(k, 0, 1)) {
            return BAD;
        }
        int was = images[k] == null ? 0 : 1;
        images[k] = st.copy();
        return was;
    }

    int back(int k) {
        if (out(k, 0, 1)) {
            return BAD;
        }
        if (images[k] == null) {
            return STATE;
        }
        st = images[k].copy();
        return st.week;
    }

    // The sheets here are rows of the machine, and their faults what it throws.

    int sheet(int k, int lane, int n) {
        if (out(k, 0, 3) || out(lane, 0, 2) || n > 40) {
            return BAD;
        }
        try {
            sheets[k] = lane == 0 ? new byte[n] : lane == 1 ? new short[n] : new int[n];
        } catch (NegativeArraySizeException e) {
            return -14;
        }
        return 1;
    }

    int lay(int k, int i, int v) {
        if (out(k, 0, 3)) {
            return BAD;
        }
        try {
            if (sheets[k] instanceof byte[]) {
                ((byte[]) sheets[k])[i] = (byte) v;
            } else if (sheets[k] instanceof short[]) {
                ((short[]) sheets[k])[i] = (short) v;
            } else {
                ((int[]) sheets[k])[i] = v;
            }
        } catch (NullPointerException e) {
            return -11;
        } catch (ArrayIndexOutOfBoundsException e) {
            return -12;
        }
        return 1;
    }

    private static int cell(Object row, int lane, int i) {
        return lane == 0 ? ((byte[]) row)[i] : lane == 1 ? ((short[]) row)[i] : ((int[]) row)[i];
    }

    int read(int k, int lane, int f, int n) {
        if (out(k, 0, 3) || out(lane, 0, 2) || out(n, 0, 13)) {
            return BAD;
        }
        State then = st.copy();
        int came = 0;
        int found = 0;
        try {
            for (int i = 0; i < n; i++) {
                int c = cell(sheets[k], lane, f + 3 * i);
                int s = cell(sheets[k], lane, f + 3 * i + 1);
                int t = cell(sheets[k], lane, f + 3 * i + 2);
                if (then.bind(c, s, t) < 0) {
                    return -20 - i;
                }
                came++;
            }
        } catch (NullPointerException e) {
            found = 1;
        } catch (ArrayIndexOutOfBoundsException e) {
            found = 2;
        } catch (ClassCastException e) {
            found = 3;
        }
        st = then;
        torn = found;
        return came;
    }

    int torn() {
        return torn;
    }

    int count(int what) {
        return switch (what) {
            case 0 -> st.seen.size();
            case 1 -> (images[0] == null ? 0 : 1) + (images[1] == null ? 0 : 1);
            case 2 -> tape.length();
            case 3 -> sheets[0] == null ? NONE : java.lang.reflect.Array.getLength(sheets[0]);
            case 4 -> st.length[0] + st.length[1] + st.length[2] + st.length[3];
            case 5 -> st.kids.stream().mapToInt(k -> k.term).sum();
            default -> BAD;
        };
    }
}
