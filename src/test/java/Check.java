/** Counts answers, and prints those that are not as due. */
final class Check {
    private int checks;
    private int wrong;

    void due(String call, long got, long want) {
        checks++;
        if (got != want) {
            wrong++;
            System.out.println(call + " answered " + got + ", due is " + want);
        }
    }

    void holds(String what, boolean held) {
        checks++;
        if (!held) {
            wrong++;
            System.out.println("does not hold: " + what);
        }
    }

    int wrong() {
        return wrong;
    }

    void finish(String name) {
        System.out.println(name + ": " + checks + " checks, " + wrong + " wrong");
        if (wrong != 0) {
            System.exit(1);
        }
    }

    static void feed(SeasonBound x, String text) {
        for (int i = 0; i < text.length(); i++) {
            x.feed(text.charAt(i));
        }
    }

    /** A new object that a text has told. */
    static SeasonBound told(String text) {
        SeasonBound x = new SeasonBound();
        feed(x, text);
        if (x.text() < 0) {
            throw new IllegalArgumentException(text);
        }
        return x;
    }
}
