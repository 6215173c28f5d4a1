import java.util.EnumMap;
import java.util.Map;

/**
 * STATE, FULL, NONE, -10 less and -20 less: "the first that fits; what is refused changes nothing (but THE TAPE,
 * as told)". That BAD comes ahead of them all, in the same scenes, is BoundsTest's.
 */
public final class RefusedTest {
    private static final int BAD = SeasonBound.BAD, STATE = SeasonBound.STATE;
    private static final int FULL = SeasonBound.FULL, NONE = SeasonBound.NONE;
    private static final int MIN = Integer.MIN_VALUE, MAX = Integer.MAX_VALUE;

    private final Check check = new Check();
    private final Map<Scene, String> asIs = new EnumMap<>(Scene.class);

    private RefusedTest() {
        for (Scene scene : Scene.values()) {
            asIs.put(scene, Snapshot.of(scene.build()));
        }
    }

    public static void main(String[] args) {
        RefusedTest test = new RefusedTest();
        test.full();
        test.state();
        test.none();
        test.noneAndHowMuch();
        test.faultsOfTheMachine();
        test.refusedByBind();
        test.faultsOfTheText();
        test.check.finish("RefusedTest");
    }

    private void refused(Scene scene, long answer, String name, int... args) {
        SeasonBound x = scene.build();
        String told = scene + ", " + Call.told(name, args);
        check.due(told, Call.on(x, name, args), answer);
        unchanged(told, Snapshot.of(x), asIs.get(scene));
    }

    private void unchanged(String told, String then, String as) {
        boolean same = then.equals(as);
        check.holds(told + " changes nothing" + (same ? "" : ": " + Snapshot.difference(as, then)), same);
    }

    private void full() {
        for (int c : new int[] {0, ' ', ';', 'a', 127}) {
            refused(Scene.FULL_TAPE, FULL, "feed", c);
        }
        for (int kind = 0; kind < 4; kind++) {
            refused(Scene.CROWD, FULL, "born", kind);
        }
        for (int n = 1; n <= 30; n++) {
            refused(Scene.LAST_WEEK, FULL, "weeks", n);
        }
        refused(Scene.LAST_WEEK, 0, "weeks", 0);
        refused(Scene.CROWD, FULL, "see", 0, 0, 0);
        refused(Scene.CROWD, FULL, "see", 30, 4, 99);
    }

    private void state() {
        for (int s = 0; s < 4; s++) {
            refused(Scene.ORDINARY, STATE, "bind", 0, s, 1);
            refused(Scene.ORDINARY, STATE, "bind", 2, s, 99);
        }
        refused(Scene.ORDINARY, STATE, "free", 1);
        refused(Scene.CROWD, STATE, "free", 4);
        refused(Scene.ORDINARY, STATE, "term", 1, 60, 0);
        refused(Scene.ORDINARY, STATE, "term", 1, 0, 99);
        refused(Scene.ORDINARY, STATE, "seasons", 1);
        refused(Scene.CROWD, STATE, "seasons", 4);
        for (int seed : new int[] {0, 7, -1, MIN, MAX}) {
            refused(Scene.NEW, STATE, "drift", seed, 1, 0);
            refused(Scene.NEW, STATE, "drift", seed, 60, 1);
        }
        refused(Scene.NEW, STATE, "back", 0);
        refused(Scene.NEW, STATE, "back", 1);
        refused(Scene.ORDINARY, STATE, "back", 0);
        refused(Scene.FULL_TAPE, STATE, "back", 1);
    }

    private void none() {
        refused(Scene.ORDINARY, NONE, "child", 1, 1);
        refused(Scene.ORDINARY, NONE, "child", 1, 5);
        refused(Scene.NEW, NONE, "count", 3);
        refused(Scene.LAST_WEEK, NONE, "home", 1);
        refused(Scene.ORDINARY, NONE, "term", 0, 60, 99);
        SeasonBound apart = Check.told("plain 0 99;plain 1 99;");
        check.due("they never meet", apart.meet(0, 1), NONE);
        check.due("either way round", apart.meet(1, 0), NONE);
    }

    private void noneAndHowMuch() {
        for (int what = 0; what < 2; what++) {
            refused(Scene.NEW, NONE, "swap", 60, what);
            refused(Scene.NEW, NONE, "gift", 60, what);
            refused(Scene.NEW, NONE, "ask", 0, what);
            refused(Scene.ORDINARY, NONE, "swap", 0, what);
            refused(Scene.ORDINARY, NONE, "gift", 0, what);
            refused(Scene.LAST_WEEK, NONE, "swap", 60, what);
            refused(Scene.ORDINARY, NONE, "ask", 1, what);
            refused(Scene.ORDINARY, NONE, "ask", 3, what);
        }
    }

    private void faultsOfTheMachine() {
        for (int k = 0; k < 4; k++) {
            for (int lane = 0; lane < 3; lane++) {
                refused(Scene.ORDINARY, -10 - 4, "sheet", k, lane, -1);
                refused(Scene.ORDINARY, -10 - 4, "sheet", k, lane, MIN);
            }
            for (int i : new int[] {0, -1, 40, MIN, MAX}) {
                refused(Scene.NEW, -10 - 1, "lay", k, i, 1);
            }
        }
        for (int i : new int[] {-1, 7, 39, 40, MIN, MAX}) {
            refused(Scene.ORDINARY, -10 - 2, "lay", 0, i, 1);
            refused(Scene.ORDINARY, -10 - 2, "lay", 1, i, 1);
            refused(Scene.ORDINARY, -10 - 2, "lay", 3, i, 1);
        }
        refused(Scene.ORDINARY, -10 - 2, "lay", 3, 0, 1);
        refused(Scene.ORDINARY, -10 - 1, "lay", 2, 0, 1);
    }

    /** What was torn before stays as well: a refused read() has not come to an end. */
    private void refusedByBind() {
        refused(Scene.ORDINARY, -20, "read", 0, 0, 0, 1);
        refused(Scene.ORDINARY, -20, "read", 0, 0, 0, 13);
        refused(Scene.ORDINARY, -20, "read", 1, 1, 4, 1);
        refused(Scene.LAST_WEEK, -20, "read", 2, 2, 0, 2);
        refused(Scene.LAST_WEEK, -20, "read", 2, 2, 3, 1);
        refused(Scene.ORDINARY, BAD, "read", 0, 0, 0, 14);
        refused(Scene.ORDINARY, BAD, "read", 4, 0, 0, 1);
        refused(Scene.ORDINARY, BAD, "read", 0, 3, 0, 1);
    }

    /** "-10 less the place of its FAULT: that which was told stays", and nothing is left on the tape. */
    private void faultsOfTheText() {
        String[] faulty = {"#", "slow 3 3;winter 9 9 9;#", "slow 3 3;x", "quick 9 1;plain 4", "summer 9 9 9;summer",
            "plain 0 1;plain 0 1;plain 0 1;plain 0 1;plain 0 1;plain"};
        for (Scene scene : Scene.values()) {
            SeasonBound emptied = scene.build();
            emptied.end(0);
            String as = Snapshot.ofAllButFault(emptied);
            for (String text : faulty) {
                SeasonBound x = scene.build();
                x.end(0);
                Check.feed(x, text);
                check.holds(scene + ", text '" + text + "' is refused", x.text() <= -10);
                unchanged(scene + ", text '" + text + "'", Snapshot.ofAllButFault(x), as);
            }
        }
    }
}
