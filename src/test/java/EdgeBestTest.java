/** Edges of what is best and of weeks that are let off, sentence by sentence: promises 19 to 26. */
public final class EdgeBestTest {
    private static final int BAD = SeasonBound.BAD, STATE = SeasonBound.STATE, NONE = SeasonBound.NONE;
    /** Of twelve weeks nine are spring's: no child can live more of sixty than these. */
    private static final String LONG_SPRING = "spring 9 1 99;summer 1 1 99;autumn 1 1 99;winter 1 1 99;";

    private final Check check = new Check();

    public static void main(String[] args) {
        EdgeBestTest test = new EdgeBestTest();
        test.placeOfSeveralTheFirst();
        test.placeByTermOrTwelve();
        test.placeAtTheLast();
        test.swapOfSeveralTheLeast();
        test.swapMoreThanAsItIs();
        test.swapOfBothBound();
        test.spanOfSeveralTheLeast();
        test.spanFromOneToNine();
        test.giftOfSeveralTheFirst();
        test.giftNineAtMost();
        test.giftMoreThanAsItIs();
        test.leastTerm();
        test.noTerm();
        test.kindOfSeveralTheFirst();
        test.kindIsMeasuredByAll();
        test.lowestTerms();
        test.luckFromEndToEnd();
        test.luckOfItself();
        test.meanFromEndToEnd();
        test.check.finish("EdgeBestTest");
    }

    private void fraction(String what, long above, long below, long wantAbove, long wantBelow) {
        check.due(what + ", numerator", above, wantAbove);
        check.due(what + ", denominator", below, wantBelow);
    }

    /** Promise 19: "of several the first (what 0), how much (1)". */
    private void placeOfSeveralTheFirst() {
        int[][] gifts = {{2, 2, 2, 2}, {1, 2, 2, 2}, {1, 1, 2, 2}, {1, 1, 1, 2}, {2, 1, 1, 2}, {0, 0, 0, 0}, {1, 2, 1, 2}};
        int[] first = {0, 1, 2, 3, 0, 0, 1};
        for (int i = 0; i < gifts.length; i++) {
            SeasonBound x = Check.told("plain 3 3;plain 9 1;");
            for (int s = 0; s < 4; s++) {
                x.set(s, 1, gifts[i][s]);
            }
            int most = gifts[i][first[i]];
            check.due("the first, row " + i, x.place(0, 12, 0), first[i]);
            check.due("how much, row " + i, x.place(0, 12, 1), 3 * most);
            check.due("the first, of a free one, row " + i, x.place(1, 12, 0), first[i]);
            check.due("how much, of a free one, row " + i, x.place(1, 12, 1), 3 * most);
            x.alter(0, 1, 50);
            check.due("behind none the first, row " + i, x.place(0, 0, 0), 0);
            check.due("behind none as much as it has, row " + i, x.place(0, 0, 1), 50);
        }
        check.due("nobody to place", new SeasonBound().place(0, 0, 0), BAD);
    }

    /** "TERM as it is; 12, if it is FREE". */
    private void placeByTermOrTwelve() {
        SeasonBound x = Check.told("plain 9 1;plain 3 11;plain 3 12;plain 3 13;plain 3 99;" + LONG_SPRING);
        int[] due = {12, 11, 12, 13, 45};
        for (int c = 0; c < 5; c++) {
            check.due("child " + c, x.place(c, 60, 1), due[c]);
            check.due("child " + c + ", where", x.place(c, 60, 0), 0);
        }
        check.due("free still", x.child(0, 1), NONE);
        check.due("winter's still", x.child(4, 1), 3);
    }

    private void placeAtTheLast() {
        SeasonBound x = Check.told("plain 9 1;spring 9 0 99;summer 9 0 99;autumn 9 0 99;winter 1 9 99;");
        check.due("winter is not yet", x.place(0, 27, 0), 0);
        check.due("nothing is learnt", x.place(0, 27, 1), 0);
        check.due("winter", x.place(0, 28, 0), 3);
        check.due("one week of it", x.place(0, 28, 1), 9);
        check.due("two of sixty", x.place(0, 60, 1), 18);
        x.set(3, 0, 5);
        check.due("sixty reach the second winter's first", x.place(0, 60, 1), 5 * 9 + 9);
        check.due("fifty-nine do not", x.place(0, 59, 1), 5 * 9);
        check.due("sixty-one", x.place(0, 61, 1), BAD);
    }

    /** Promise 20: "10 times the lesser and the greater, of several the least (what 0), how much (1)". */
    private void swapOfSeveralTheLeast() {
        swap("plain 0 9;quick 1 9;quick 1 9;", 1, 6);
        swap("quick 1 9;plain 0 9;quick 1 9;", 1, 6);
        swap("quick 1 9;quick 1 9;plain 0 9;", 2, 6);
        swap("plain 1 9;quick 1 9;plain 0 9;quick 1 9;", 12, 6);
        swap("plain 1 9;plain 1 9;plain 1 9;plain 0 9;quick 1 9;", 34, 6);
        swap("quick 1 9;plain 1 9;plain 1 9;plain 1 9;plain 0 9;", 4, 6);
        swap("plain 0 9;plain 0 9;quick 1 9;quick 1 9;", 2, 9);
        swap("plain 0 9;plain 0 9;plain 0 9;quick 1 9;quick 1 9;", 3, 12);
    }

    private void swap(String text, int due, int skills) {
        SeasonBound x = Check.told(text);
        check.due("who of '" + text + "'", x.swap(3, 0), due);
        check.due("how much of '" + text + "'", x.swap(3, 1), skills);
    }

    /** "more than as it is", "NONE: by none". */
    private void swapMoreThanAsItIs() {
        for (String text : new String[] {"", "plain 0 9;", "plain 0 9;plain 1 9;", "quick 0 9;plain 1 9;", "plain 0 9;quick 0 9;"}) {
            SeasonBound x = Check.told(text);
            for (int what = 0; what < 2; what++) {
                check.due("alike or less, '" + text + "'", x.swap(3, what), NONE);
                check.due("behind none, '" + text + "'", x.swap(0, what), NONE);
            }
        }
        SeasonBound x = Check.told("plain 0 1;plain 3 9;winter 3 1 99;");
        check.due("behind sixty both terms are over either way", x.swap(60, 0), NONE);
        check.due("in the first spring the longer term tells", x.swap(3, 0), 1);
        check.due("how much", x.swap(3, 1), 3);
    }

    /** "Two CHILDREN, both BOUND ... (TERMS stay)". */
    private void swapOfBothBound() {
        SeasonBound x = Check.told("plain 9 1;plain 0 9;quick 1 2;");
        check.due("the free one is left out", x.swap(3, 0), 12);
        check.due("two weeks alone are learnt, as its term is", x.swap(3, 1), 4);
        x.free(2);
        check.due("only one is bound", x.swap(3, 0), NONE);
        check.due("the lesser alone is bound", Check.told("quick 1 9;plain 9 1;").swap(3, 0), NONE);
        check.due("the greater alone is bound", Check.told("plain 9 1;quick 1 9;").swap(3, 0), NONE);
        SeasonBound freed = Check.told("plain 0 9;quick 1 9;");
        freed.free(0);
        check.due("one that was spring's is free", freed.swap(3, 0), NONE);
    }

    /** Promise 21: "of several the least (what 0), how much (1)". */
    private void spanOfSeveralTheLeast() {
        SeasonBound x = Check.told("plain 0 99;plain 1 99;spring 9 1 99;summer 4 1 99;");
        check.due("behind none", x.span(0, 0, 0), 1);
        check.due("behind none, how much", x.span(0, 0, 1), 0);
        check.due("left stays, so no length tells", x.span(0, 9, 0), 1);
        check.due("nine weeks of it", x.span(0, 9, 1), 9);
        check.due("four of summer", x.span(1, 13, 0), 4);
        check.due("all were learnt in", x.span(1, 13, 1), 13);
        check.due("four or more are alike: the least", x.span(1, 13, 0), 4);
        check.due("two", x.span(1, 11, 0), 2);
        check.due("nobody's", x.span(2, 60, 0), 1);
        check.due("of nobody", new SeasonBound().span(3, 60, 0), 1);
        check.due("of nobody, how much", new SeasonBound().span(3, 60, 1), 0);
    }

    private void spanFromOneToNine() {
        SeasonBound x = Check.told("plain 1 99;spring 1 1 99;summer 1 1 99;autumn 1 1 99;winter 1 1 99;");
        for (int length = 1; length <= 9; length++) {
            check.due("long enough", x.span(1, 1 + length, 0), length);
            check.due("how much", x.span(1, 1 + length, 1), length);
        }
        check.due("no longer than nine", x.span(1, 11, 0), 9);
        check.due("nine alone", x.span(1, 11, 1), 9);
        check.due("sixty", x.span(1, 60, 0), 9);
        check.due("five years of nine", x.span(1, 60, 1), 45);
        check.due("winter had better be short", x.span(3, 60, 0), 1);
        check.due("it is as it was", x.season(1, 0), 1);
        check.due("a fifth season", x.span(4, 60, 0), BAD);
    }

    /** Promise 22: "of several the first (what 0), how much (1)". */
    private void giftOfSeveralTheFirst() {
        SeasonBound x = Check.told("plain 1 99;plain 2 99;plain 3 99;");
        check.due("summer's", x.gift(12, 0), 1);
        check.due("how much", x.gift(12, 1), 12);
        x.free(0);
        check.due("autumn's", x.gift(12, 0), 2);
        x.free(1);
        check.due("winter's", x.gift(12, 0), 3);
        check.due("sixty", x.gift(60, 1), 30);
        x.bind(0, 0, 99);
        check.due("spring's", x.gift(12, 0), 0);
        x.bind(1, 3, 99);
        check.due("winter's, for two", x.gift(12, 0), 3);
        check.due("how much", x.gift(12, 1), 3 + 6 + 6);
    }

    /** "1 more (9 at most)". */
    private void giftNineAtMost() {
        SeasonBound x = Check.told("plain 0 2;plain 1 2;spring 3 8 99;summer 3 9 99;");
        check.due("from eight to nine", x.gift(12, 0), 0);
        check.due("how much", x.gift(12, 1), 18 + 18);
        x.set(0, 1, 9);
        for (int what = 0; what < 2; what++) {
            check.due("not to ten", x.gift(12, what), NONE);
            check.due("not to ten, behind sixty", x.gift(60, what), NONE);
        }
        x.set(0, 1, 0);
        check.due("from none to one", x.gift(12, 0), 0);
        check.due("how much", x.gift(12, 1), 2 + 18);
    }

    /** "more than as it is", "NONE: none". */
    private void giftMoreThanAsItIs() {
        for (int what = 0; what < 2; what++) {
            check.due("nobody", new SeasonBound().gift(60, what), NONE);
            check.due("nobody bound", Check.told("plain 9 1;").gift(60, what), NONE);
            check.due("behind none", Check.told("plain 0 9;").gift(0, what), NONE);
            check.due("not this season", Check.told("plain 1 9;").gift(3, what), NONE);
            check.due("nothing more to be learnt", Check.told("plain 0 9;spring 3 1 2;").gift(2, what), NONE);
            check.due("half, up, is as much", Check.told("slow 0 9;").gift(3, what), NONE);
        }
        check.due("more to be learnt", Check.told("plain 0 9;spring 3 1 2;").gift(1, 1), 2);
        check.due("the next season's first week", Check.told("plain 1 9;").gift(4, 0), 1);
    }

    /** Promise 23: "The least TERM (1 to 99)". */
    private void leastTerm() {
        SeasonBound x = Check.told("plain 0 99;" + LONG_SPRING);
        check.due("nothing is asked", x.term(0, 0, 0), 1);
        check.due("nor behind sixty", x.term(0, 60, 0), 1);
        for (int k = 1; k <= 9; k++) {
            check.due("weeks enough for " + k, x.term(0, k, k), k);
            check.due("more than enough for " + k, x.term(0, 60, k), k);
            check.due("a week too few for " + k, x.term(0, k - 1, k), NONE);
        }
        check.due("the next spring's first", x.term(0, 13, 10), 10);
        check.due("all of sixty", x.term(0, 60, 45), 45);
        check.due("not one more", x.term(0, 60, 46), NONE);
        check.due("its own term does not tell", x.child(0, 2), 99);
        x.alter(0, 1, 99);
        check.due("it has all", x.term(0, 0, 99), 1);
    }

    /** "STATE: it is FREE; NONE: by none". */
    private void noTerm() {
        SeasonBound x = Check.told("plain 0 1;plain 9 1;spring 3 9 20;");
        check.due("three weeks", x.term(0, 3, 20), 3);
        check.due("one above most", x.term(0, 60, 21), NONE);
        check.due("the top", x.term(0, 60, 99), NONE);
        check.due("free", x.term(1, 60, 0), STATE);
        check.due("bad ahead of free", x.term(1, 60, 100), BAD);
        check.due("bad ahead of none", x.term(0, 61, 99), BAD);
        x.alter(0, 1, 21);
        check.due("above most already", x.term(0, 0, 21), 1);
        check.due("but no further", x.term(0, 60, 22), NONE);
        x.weeks(1);
        check.due("free by now", x.term(0, 60, 0), STATE);
    }

    /** Promise 24: "of several the first (what 0), how much (1)". */
    private void kindOfSeveralTheFirst() {
        int[] best = {3, 1, 1, 1, 1, 1, 1, 1, 1, 1};
        int[] learnt = {1, 2, 4, 6, 8, 10, 12, 14, 16, 18};
        for (int gift = 0; gift <= 9; gift++) {
            SeasonBound x = Check.told("slow 0 9;");
            x.set(0, 1, gift);
            check.due("gift " + gift, x.kind(0, 1, 0), best[gift]);
            check.due("gift " + gift + ", how much", x.kind(0, 1, 1), learnt[gift]);
            check.due("behind none", x.kind(0, 0, 0), 0);
            check.due("behind none, how much", x.kind(0, 0, 1), 0);
            x.set(0, 2, 0);
            check.due("nothing can be learnt", x.kind(0, 60, 0), 0);
            check.due("its kind stays", x.child(0, 0), 2);
        }
        SeasonBound x = Check.told("orphan 0 9;spring 3 3 6;");
        check.due("two weeks for a plain one: as much as a quick one's", x.kind(0, 2, 0), 0);
        check.due("one week for a quick one alone", x.kind(0, 1, 0), 1);
        check.due("most", x.kind(0, 60, 1), 6);
        check.due("a free one", Check.told("orphan 9 1;").kind(0, 60, 0), 0);
    }

    private void kindIsMeasuredByAll() {
        SeasonBound x = Check.told("orphan 0 9;plain 0 9;plain 9 1;");
        x.alter(2, 1, 40);
        check.due("quick or orphan: the first", x.kind(0, 3, 0), 1);
        check.due("skills of all", x.kind(0, 3, 1), 6 + 3 + 40);
    }

    private static long common(long a, long b) {
        return b == 0 ? a : common(b, a % b);
    }

    /** "Fractions are in lowest terms, the denominator above 0 (0 is 0 by 1)". */
    private void lowestTerms() {
        for (int v = 0; v <= 10; v++) {
            for (int n = 0; n <= 8; n++) {
                SeasonBound x = Check.told("slow 0 6;quick 0 3;spring 7 5 16;");
                for (int k = 0; k <= 20; k += 4) {
                    long above = x.luck(v, 0, n, k, 0);
                    long below = x.luck(v, 0, n, k, 1);
                    String told = "luck of " + v + ", " + n + ", " + k + ": " + above + " by " + below;
                    check.holds(told, below > 0 && above >= 0 && above <= below && common(above, below) == 1);
                }
                long above = x.mean(v, n, 0);
                long below = x.mean(v, n, 1);
                String told = "mean of " + v + ", " + n + ": " + above + " by " + below;
                check.holds(told, below > 0 && above >= 0 && common(above, below) == 1);
            }
        }
        SeasonBound x = Check.told("plain 0 9;");
        fraction("0 is 0 by 1", x.luck(5, 0, 8, 99, 0), x.luck(5, 0, 8, 99, 1), 0, 1);
        fraction("0 is 0 by 1", x.mean(10, 8, 0), x.mean(10, 8, 1), 0, 1);
        fraction("a half", x.luck(5, 0, 1, 1, 0), x.luck(5, 0, 1, 1, 1), 1, 2);
        fraction("a fifth", x.luck(8, 0, 1, 1, 0), x.luck(8, 0, 1, 1, 1), 1, 5);
        fraction("three halves", x.mean(5, 3, 0), x.mean(5, 3, 1), 3, 2);
    }

    /** Promise 25: "n WEEKS (0 to 8)", "v out of ten (0 to 10)", "k (0 to 99) or more". */
    private void luckFromEndToEnd() {
        SeasonBound x = Check.told("plain 0 99;" + LONG_SPRING);
        fraction("all of eight", x.luck(1, 0, 8, 8, 0), x.luck(1, 0, 8, 8, 1), 43046721, 100000000);
        fraction("one of eight", x.luck(1, 0, 8, 1, 0), x.luck(1, 0, 8, 1, 1), 99999999, 100000000);
        fraction("seven of eight or more", x.luck(1, 0, 8, 7, 0), x.luck(1, 0, 8, 7, 1), 81310473, 100000000);
        fraction("nine of eight", x.luck(1, 0, 8, 9, 0), x.luck(1, 0, 8, 9, 1), 0, 1);
        fraction("none asked", x.luck(1, 0, 8, 0, 0), x.luck(1, 0, 8, 0, 1), 1, 1);
        fraction("never let off", x.luck(0, 0, 8, 8, 0), x.luck(0, 0, 8, 8, 1), 1, 1);
        fraction("always let off", x.luck(10, 0, 8, 1, 0), x.luck(10, 0, 8, 1, 1), 0, 1);
        fraction("always let off, none asked", x.luck(10, 0, 8, 0, 0), x.luck(10, 0, 8, 0, 1), 1, 1);
        fraction("behind none", x.luck(5, 0, 0, 1, 0), x.luck(5, 0, 0, 1, 1), 0, 1);
        fraction("behind none, none asked", x.luck(5, 0, 0, 0, 0), x.luck(5, 0, 0, 0, 1), 1, 1);
        x.alter(0, 1, 99);
        fraction("the top, had already", x.luck(10, 0, 0, 99, 0), x.luck(10, 0, 0, 99, 1), 1, 1);
        x.alter(0, 1, 98);
        fraction("the top, at the first", x.luck(9, 0, 1, 99, 0), x.luck(9, 0, 1, 99, 1), 1, 10);
        fraction("the top, at one of two", x.luck(9, 0, 2, 99, 0), x.luck(9, 0, 2, 99, 1), 19, 100);
        check.due("nobody", new SeasonBound().luck(0, 0, 0, 0, 0), BAD);
    }

    /** "by itself (all else goes as it does)": the term, the season and the age run in a week that is let off. */
    private void luckOfItself() {
        SeasonBound x = Check.told("plain 0 1;plain 1 9;plain 9 1;");
        fraction("its only week", x.luck(5, 0, 8, 1, 0), x.luck(5, 0, 8, 1, 1), 1, 2);
        fraction("not its season yet", x.luck(0, 1, 3, 1, 0), x.luck(0, 1, 3, 1, 1), 0, 1);
        fraction("its season's first", x.luck(5, 1, 4, 1, 0), x.luck(5, 1, 4, 1, 1), 1, 2);
        fraction("its season is over by then", x.luck(5, 1, 8, 3, 0), x.luck(5, 1, 8, 3, 1), 1, 8);
        fraction("a free one learns nothing", x.luck(0, 2, 8, 1, 0), x.luck(0, 2, 8, 1, 1), 0, 1);
        check.due("nothing has changed", x.rule(1) + x.rule(5), 0);
    }

    /** Promise 26. */
    private void meanFromEndToEnd() {
        SeasonBound x = Check.told("plain 0 99;spring 9 1 7;");
        fraction("eight lessons for seven", x.mean(1, 8, 0), x.mean(1, 8, 1), 676953279, 100000000);
        fraction("never let off", x.mean(0, 8, 0), x.mean(0, 8, 1), 7, 1);
        fraction("always let off", x.mean(10, 8, 0), x.mean(10, 8, 1), 0, 1);
        fraction("seven lessons", x.mean(1, 7, 0), x.mean(1, 7, 1), 63, 10);
        fraction("behind none", x.mean(5, 0, 0), x.mean(5, 0, 1), 0, 1);
        fraction("nobody", new SeasonBound().mean(5, 8, 0), new SeasonBound().mean(5, 8, 1), 0, 1);
        SeasonBound once = Check.told("plain 0 1;plain 1 9;");
        fraction("one lesson of eight weeks, and three", once.mean(5, 8, 0), once.mean(5, 8, 1), 2, 1);
        fraction("one lesson, and one", once.mean(9, 4, 0), once.mean(9, 4, 1), 1, 5);
        SeasonBound five = Check.told("quick 0 9;quick 0 9;quick 0 9;quick 0 9;quick 0 9;spring 9 9 99;");
        fraction("five at the top", five.mean(0, 8, 0), five.mean(0, 8, 1), 495, 1);
        for (int c = 0; c < 5; c++) {
            five.alter(c, 1, 99);
        }
        fraction("five at the top already", five.mean(10, 8, 0), five.mean(10, 8, 1), 495, 1);
        fraction("that learn no more", five.mean(5, 8, 0), five.mean(5, 8, 1), 495, 1);
    }
}
