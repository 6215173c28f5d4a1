/**
 * "BAD (a number is not as told, there is no such CHILD, SEASON, IMAGE, SHEET)", "the first that fits",
 * "what is refused changes nothing": every number of every call, at its bounds and beyond, in every scene.
 */
public final class BoundsTest {
    private static final int BAD = SeasonBound.BAD;

    private final Check check = new Check();

    public static void main(String[] args) {
        BoundsTest test = new BoundsTest();
        for (Scene scene : Scene.values()) {
            String as = Snapshot.of(scene.build());
            for (Call call : Call.all(scene.build())) {
                test.lastTaken(scene, call, as);
                test.firstRefused(scene, call, as);
            }
            test.meet(scene, as);
        }
        test.check.finish("BoundsTest");
    }

    private void lastTaken(Scene scene, Call call, String as) {
        for (int[] args : call.taken()) {
            SeasonBound x = scene.build();
            String told = scene + ", " + Call.told(call.name, args);
            check.holds(told + " is taken", Call.on(x, call.name, args) != BAD);
            if (call.onlyAsks()) {
                unchanged(told + ", which only asks", x, as);
            }
        }
    }

    private void firstRefused(Scene scene, Call call, String as) {
        for (int[] args : call.refused()) {
            refused(scene, as, call.name, args);
        }
    }

    private void meet(Scene scene, String as) {
        int size = scene.build().rule(0);
        for (int c = 0; c < size; c++) {
            for (int d = 0; d < size; d++) {
                SeasonBound x = scene.build();
                String told = scene + ", " + Call.told("meet", c, d);
                check.holds(told + " is taken, unless alike", (x.meet(c, d) == BAD) == (c == d));
                unchanged(told, x, as);
            }
            for (int d : new int[] {-1, size, Integer.MIN_VALUE, Integer.MAX_VALUE}) {
                refused(scene, as, "meet", c, d);
                refused(scene, as, "meet", d, c);
            }
        }
        refused(scene, as, "meet", -1, size);
    }

    private void refused(Scene scene, String as, String name, int... args) {
        SeasonBound x = scene.build();
        String told = scene + ", " + Call.told(name, args);
        check.due(told, Call.on(x, name, args), BAD);
        unchanged(told, x, as);
    }

    private void unchanged(String told, SeasonBound x, String as) {
        String then = Snapshot.of(x);
        boolean same = then.equals(as);
        check.holds(told + " changes nothing" + (same ? "" : ": " + Snapshot.difference(as, then)), same);
    }
}
