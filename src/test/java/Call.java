import java.lang.reflect.Method;
import java.util.ArrayList;
import java.util.Arrays;
import java.util.List;

/** A call of the face with the numbers that the document lets it take. */
final class Call {
    private static final int MIN = Integer.MIN_VALUE, MAX = Integer.MAX_VALUE;
    private static final List<String> CHANGING = List.of("feed", "end", "text", "alter", "set", "bind", "free", "born",
        "weeks", "see", "forget", "keep", "back", "sheet", "lay", "read");

    final String name;
    /** For each number its least and its most, or one number alone that is not tried out. */
    private final int[][] bounds;

    private Call(String name, int[]... bounds) {
        this.name = name;
        this.bounds = bounds;
    }

    private static int[] in(int least, int most) {
        return new int[] {least, most};
    }

    private static int[] just(int v) {
        return new int[] {v};
    }

    /** All calls that take numbers, by the bounds that hold for an object as it is. */
    static List<Call> all(SeasonBound x) {
        int[] kid = in(0, x.rule(0) - 1);
        int[] season = in(0, 3);
        int[] run = in(0, 60);
        int[] pair = in(0, 1);
        int[] any = in(MIN, MAX);
        List<Call> calls = new ArrayList<>(List.of(
            new Call("feed", in(0, 127)), new Call("end", in(0, x.count(2))), new Call("rule", in(0, 5)),
            new Call("child", kid, in(0, 5)), new Call("season", season, in(0, 3)),
            new Call("alter", kid, pair, just(0)), new Call("alter", kid, just(0), in(0, 3)),
            new Call("alter", kid, just(1), in(0, 99)),
            new Call("set", season, in(0, 2), just(1)), new Call("set", season, just(0), in(1, 9)),
            new Call("set", season, just(1), in(0, 9)), new Call("set", season, just(2), in(0, 99)),
            new Call("bind", kid, season, in(1, 99)), new Call("free", kid), new Call("born", in(0, 3)),
            new Call("weeks", in(0, 30)), new Call("runs", run, in(0, 4)), new Call("ahead", kid, run, in(0, 2)),
            new Call("home", kid)));
        calls.addAll(List.of(
            new Call("place", kid, run, pair), new Call("swap", run, pair), new Call("span", season, run, pair),
            new Call("gift", run, pair), new Call("term", kid, run, in(0, 99)), new Call("kind", kid, run, pair),
            new Call("luck", in(0, 10), kid, in(0, 8), in(0, 99), pair), new Call("mean", in(0, 10), in(0, 8), pair),
            new Call("see", in(0, 30), kid, in(0, 99)), new Call("forget", in(0, x.count(0))),
            new Call("kinds", kid), new Call("seasons", kid), new Call("gifts", season), new Call("ask", season, pair),
            new Call("drift", any, in(1, 60), pair), new Call("keep", pair), new Call("back", pair),
            new Call("sheet", season, in(0, 2), just(3)), new Call("sheet", just(0), just(0), in(MIN, 40)),
            new Call("lay", season, any, any), new Call("read", season, in(0, 2), any, in(0, 13)),
            new Call("count", in(0, 5))));
        return calls;
    }

    boolean onlyAsks() {
        return !CHANGING.contains(name);
    }

    /** Nothing can be taken where there are no children to tell of. */
    private boolean takesNothing() {
        return Arrays.stream(bounds).anyMatch(b -> b.length == 2 && b[0] > b[1]);
    }

    private int[] usual() {
        return Arrays.stream(bounds).mapToInt(b -> b[0]).toArray();
    }

    private int[] with(int place, int v) {
        int[] args = usual();
        args[place] = v;
        return args;
    }

    /** The last numbers on either side that are taken, one place after another, and all places at their most. */
    List<int[]> taken() {
        List<int[]> rows = new ArrayList<>();
        if (takesNothing()) {
            return rows;
        }
        rows.add(usual());
        for (int i = 0; i < bounds.length; i++) {
            if (bounds[i].length == 2) {
                rows.add(with(i, bounds[i][1]));
            }
        }
        rows.add(Arrays.stream(bounds).mapToInt(b -> b[b.length - 1]).toArray());
        return rows;
    }

    /** The first numbers on either side that are refused, and the farthest. */
    List<int[]> refused() {
        List<int[]> rows = new ArrayList<>();
        for (int i = 0; i < bounds.length; i++) {
            if (bounds[i].length == 2 && bounds[i][0] != MIN) {
                rows.add(with(i, bounds[i][0] - 1));
                rows.add(with(i, MIN));
            }
            if (bounds[i].length == 2 && bounds[i][1] != MAX) {
                rows.add(with(i, bounds[i][1] + 1));
                rows.add(with(i, MAX));
            }
        }
        return rows;
    }

    static String told(String name, int... args) {
        return name + Arrays.toString(args).replace('[', '(').replace(']', ')');
    }

    static long on(SeasonBound x, String name, int... args) {
        Class<?>[] types = new Class<?>[args.length];
        Arrays.fill(types, int.class);
        Object[] values = Arrays.stream(args).boxed().toArray();
        try {
            Method method = SeasonBound.class.getMethod(name, types);
            return ((Number) method.invoke(x, values)).longValue();
        } catch (ReflectiveOperationException e) {
            throw new IllegalStateException(told(name, args), e);
        }
    }
}
