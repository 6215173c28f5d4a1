/** Edges of a week and of weeks to come, sentence by sentence: "Terms", sections 1 and 2, and promises 6 to 18. */
public final class EdgeWeekTest {
    private static final int BAD = SeasonBound.BAD, STATE = SeasonBound.STATE;
    private static final int FULL = SeasonBound.FULL, NONE = SeasonBound.NONE;

    private final Check check = new Check();

    public static void main(String[] args) {
        EdgeWeekTest test = new EdgeWeekTest();
        test.learns();
        test.lives();
        test.bitsAndSums();
        test.alterFromEndToEnd();
        test.setFromEndToEnd();
        test.bindFromEndToEnd();
        test.bindAllToOne();
        test.bornUpToFive();
        test.ageOf999();
        test.skillUpToMost();
        test.skillAtMostOrAbove();
        test.mostOfThatSeason();
        test.termsEnd();
        test.longestTerm();
        test.leftRunsOut();
        test.leftStaysWhenSet();
        test.winterToSpring();
        test.weeksUpTo999();
        test.weeksOfNoneAndThirty();
        test.runsOfNoneAndSixty();
        test.runsPast999();
        test.aheadOfNoneAndSixty();
        test.homeAtTheLast();
        test.meetAtTheLast();
        test.check.finish("EdgeWeekTest");
    }

    /** "slow half of that of a plain one (up); orphan 1 more than a slow one", for every GIFT from 0 to 9. */
    private void learns() {
        int[] slow = {0, 1, 1, 2, 2, 3, 3, 4, 4, 5};
        SeasonBound x = Check.told("plain 0 99;quick 0 99;slow 0 99;orphan 0 99;");
        for (int gift = 0; gift <= 9; gift++) {
            x.set(0, 1, gift);
            int[] due = {gift, 2 * gift, slow[gift], slow[gift] + 1};
            for (int c = 0; c < 4; c++) {
                check.due("learns, kind " + c + ", gift " + gift, x.child(c, 5), due[c]);
                check.due("is taught, kind " + c + ", gift " + gift, x.ahead(c, 1, 0), due[c]);
            }
        }
        x.free(0);
        check.due("learns, free", x.child(0, 5), NONE);
        check.due("is taught, free", x.ahead(0, 1, 0), 0);
        SeasonBound far = Check.told("plain 3 1;winter 1 7 9;");
        check.due("in a week of its season, though it is another", far.child(0, 5), 7);
    }

    /** "A CHILD LIVES in a WEEK, if it is FREE, or if it is the SEASON to which it is BOUND." */
    private void lives() {
        SeasonBound x = Check.told("plain 0 99;plain 1 99;plain 2 99;plain 3 99;plain 9 1;");
        for (int week = 0; week < 24; week++) {
            int s = week / 3 % 4;
            check.due("week " + week + ", season", x.rule(2), s);
            check.due("week " + week + ", left", x.rule(3), 3 - week % 3);
            check.due("week " + week + ", who lives", x.rule(4), 16 | 1 << s);
            x.weeks(1);
            check.due("age of the free one", x.child(4, 4), week + 1);
            check.due("age of the one that lived", x.child(s, 4), 3 * (week / 12) + week % 3 + 1);
        }
        check.due("nobody lives, where there is nobody", new SeasonBound().rule(4), 0);
    }

    /** Promises 6 and 8: bits and sums of none and of five. */
    private void bitsAndSums() {
        SeasonBound none = new SeasonBound();
        check.due("skills of none", none.rule(5), 0);
        check.due("terms of none", none.count(5), 0);
        check.due("free of none", none.runs(60, 1), 0);
        SeasonBound x = Check.told("plain 1 99;quick 1 99;slow 1 99;orphan 1 99;plain 1 99;");
        for (int c = 0; c < 5; c++) {
            x.alter(c, 1, 99);
        }
        check.due("children", x.rule(0), 5);
        check.due("all at the top", x.rule(5), 495);
        check.due("all terms", x.count(5), 495);
        check.due("all bound", x.season(1, 3), 31);
        check.due("not to spring", x.season(0, 3), 0);
        check.due("in spring nobody", x.rule(4), 0);
        x.weeks(3);
        check.due("in summer all", x.rule(4), 31);
        for (int c = 0; c < 5; c++) {
            x.free(c);
            check.due("bound without " + c, x.season(1, 3), 31 & -2 << c);
        }
        check.due("all are free", x.runs(0, 1), 31);
        check.due("no terms", x.count(5), 0);
    }

    /** Promise 9. */
    private void alterFromEndToEnd() {
        SeasonBound x = Check.told("plain 0 9;plain 9 1;");
        x.set(0, 2, 0);
        for (int c = 0; c < 2; c++) {
            check.due("to the last kind", x.alter(c, 0, 3), 0);
            check.due("to the first kind", x.alter(c, 0, 0), 3);
            check.due("skill, above any most", x.alter(c, 1, 99), 0);
            check.due("skill stays, where it's too much", x.alter(c, 1, 100), BAD);
            check.due("or too little", x.alter(c, 1, -1), BAD);
            check.due("skill to 0", x.alter(c, 1, 0), 99);
            check.due("a kind too many", x.alter(c, 0, 4), BAD);
            check.due("kind is", x.child(c, 0), 0);
            check.due("age and term are not altered by it", x.alter(c, 2, 1), BAD);
        }
        check.due("nor the other", x.child(0, 2), 9);
    }

    /** Promise 10: "(LEFT stays): what it was". */
    private void setFromEndToEnd() {
        SeasonBound x = new SeasonBound();
        int[][] ends = {{1, 9, 3}, {0, 9, 1}, {0, 99, 99}};
        for (int s = 0; s < 4; s++) {
            for (int what = 0; what < 3; what++) {
                check.due("from first to least", x.set(s, what, ends[what][0]), ends[what][2]);
                check.due("one less", x.set(s, what, ends[what][0] - 1), BAD);
                check.due("from least to most", x.set(s, what, ends[what][1]), ends[what][0]);
                check.due("one more", x.set(s, what, ends[what][1] + 1), BAD);
                check.due("it is", x.season(s, what), ends[what][1]);
                check.due("left stays", x.rule(3), 3);
            }
        }
        check.due("lengths", x.count(4), 36);
    }

    /** Promises 11 and 12: "for a TERM (1 to 99)", "the TERM it had". */
    private void bindFromEndToEnd() {
        SeasonBound x = Check.told("plain 9 1;");
        for (int s = 0; s < 4; s++) {
            check.due("no term", x.bind(0, s, 0), BAD);
            check.due("too long a term", x.bind(0, s, 100), BAD);
            check.due("it is free still", x.free(0), STATE);
            check.due("least term", x.bind(0, s, 1), 1);
            check.due("bound already, even to that one", x.bind(0, s, 1), STATE);
            check.due("least term it had", x.free(0), 1);
            check.due("longest term", x.bind(0, s, 99), 1);
            check.due("bound already, to the next", x.bind(0, (s + 1) % 4, 1), STATE);
            check.due("bad ahead of that", x.bind(0, s, 100), BAD);
            check.due("season", x.child(0, 1), s);
            check.due("longest term it had", x.free(0), 99);
            check.due("none it is bound to", x.child(0, 1), NONE);
        }
        check.due("no fifth season", x.bind(0, 4, 1), BAD);
        check.due("nobody to bind", new SeasonBound().bind(0, 0, 1), BAD);
        check.due("nobody to be freed", new SeasonBound().free(0), BAD);
        x.bind(0, 0, 5);
        x.weeks(2);
        check.due("what is left of it", x.free(0), 3);
    }

    /** "how many are BOUND to it then". */
    private void bindAllToOne() {
        SeasonBound x = Check.told("plain 9 1;plain 9 1;plain 9 1;plain 9 1;plain 2 1;");
        for (int c = 0; c < 4; c++) {
            check.due("bound to winter", x.bind(c, 3, 9), c + 1);
        }
        check.due("autumn's is bound", x.bind(4, 3, 9), STATE);
        x.free(4);
        check.due("the fifth", x.bind(4, 3, 9), 5);
        x.free(0);
        check.due("the first of spring's", x.bind(0, 0, 9), 1);
    }

    /** Promise 13: "A CHILD more, FREE", "FULL". */
    private void bornUpToFive() {
        SeasonBound x = Check.told("quick 0 9;slow 1 9;");
        x.weeks(5);
        for (int c = 2; c < 5; c++) {
            check.due("born", x.born(c - 1), c + 1);
            int[] due = {c - 1, NONE, 0, 0, 0, NONE};
            for (int what = 0; what < 6; what++) {
                check.due("born " + c + ", " + what, x.child(c, what), due[what]);
            }
        }
        check.due("a sixth", x.born(3), FULL);
        check.due("there is none", x.child(5, 0), BAD);
        check.due("there are five", x.rule(0), 5);
    }

    private static SeasonBound atWeek(String text, int week) {
        SeasonBound x = Check.told(text);
        for (int i = 0; i < week / 30; i++) {
            x.weeks(30);
        }
        x.weeks(week % 30);
        return x;
    }

    /** "AGE is 1 more (999 at most)". */
    private void ageOf999() {
        SeasonBound x = atWeek("plain 9 1;plain 9 1;", 969);
        check.due("age", x.child(0, 4), 969);
        check.due("behind 29", x.ahead(0, 29, 1), 998);
        check.due("behind 30", x.ahead(0, 30, 1), 999);
        check.due("behind 31", x.ahead(0, 31, 1), 999);
        check.due("behind 60", x.ahead(0, 60, 1), 999);
        check.due("of both, behind 29", x.runs(29, 3), 1996);
        check.due("of both, behind 31", x.runs(31, 3), 1998);
        x.weeks(30);
        check.due("age", x.child(0, 4), 999);
        x.bind(0, x.rule(2), 99);
        check.due("bound, it stays", x.ahead(0, 1, 1), 999);
        check.due("by a seed too", x.drift(7, 60, 1), 1998);
        check.due("one that is born then begins at 0", x.born(0), 3);
        check.due("and ages", x.ahead(2, 60, 1), 60);
    }

    /** "SKILL is more by what it LEARNS, but not above MOST of that SEASON". */
    private void skillUpToMost() {
        SeasonBound x = Check.told("quick 0 99;slow 0 99;spring 9 3 13;");
        int[] quick = {0, 6, 12, 13, 13};
        int[] slow = {0, 2, 4, 6, 8, 10, 12, 13, 13};
        for (int n = 0; n < quick.length; n++) {
            check.due("quick behind " + n, x.ahead(0, n, 0), quick[n]);
        }
        for (int n = 0; n < slow.length; n++) {
            check.due("slow behind " + n, x.ahead(1, n, 0), slow[n]);
        }
        x.set(0, 2, 12);
        check.due("to most itself", x.ahead(0, 2, 0), 12);
        x.set(0, 2, 0);
        check.due("where nothing can be learnt", x.ahead(0, 9, 0), 0);
        x.set(0, 2, 1);
        check.due("where one can", x.ahead(0, 1, 0), 1);
        x.set(0, 2, 99);
        x.set(0, 1, 9);
        x.alter(0, 1, 98);
        check.due("to the top", x.weeks(1), 1 + 5);
        check.due("the top", x.child(0, 3), 99);
    }

    /** "(it stays, if it is there already, or above)". */
    private void skillAtMostOrAbove() {
        SeasonBound x = Check.told("plain 0 99;quick 0 99;orphan 0 99;plain 0 99;spring 9 5 40;");
        int[] before = {40, 41, 99, 39};
        int[] then = {40, 41, 99, 40};
        for (int c = 0; c < 4; c++) {
            x.alter(c, 1, before[c]);
        }
        check.due("one alone learns one", x.weeks(1), 1);
        for (int c = 0; c < 4; c++) {
            check.due("skill " + before[c], x.child(c, 3), then[c]);
            check.due("its term runs all the same", x.child(c, 2), 98);
            check.due("it ages all the same", x.child(c, 4), 1);
        }
        x.set(0, 2, 0);
        check.due("a most that falls takes nothing away", x.weeks(1), 0);
    }

    private void mostOfThatSeason() {
        SeasonBound x = Check.told("plain 0 99;plain 1 99;spring 3 9 2;summer 3 9 20;autumn 3 9 0;winter 3 9 0;");
        check.due("by spring's", x.ahead(0, 60, 0), 2);
        check.due("by summer's", x.ahead(1, 60, 0), 20);
    }

    /** "TERM is 1 less: is that 0, it is FREE." */
    private void termsEnd() {
        SeasonBound x = Check.told("plain 0 1;plain 0 2;plain 1 1;spring 3 4 99;");
        check.due("the last week is learnt in", x.weeks(1), 8);
        check.due("free", x.child(0, 1), NONE);
        check.due("not yet", x.child(1, 2), 1);
        check.due("a term stands still in another's season", x.child(2, 2), 1);
        check.due("the free one learns no more", x.weeks(1), 4);
        check.due("but ages", x.child(0, 4), 2);
        check.due("free", x.child(1, 1), NONE);
        check.due("summer's did not live", x.child(2, 4), 0);
        check.due("in spring's last week neither", x.weeks(1), 0);
        check.due("in summer's first it does", x.weeks(1), 1);
        check.due("free", x.child(2, 2), 0);
        check.due("by weeks as well", x.runs(0, 1), 7);
    }

    private void longestTerm() {
        SeasonBound x = Check.told("plain 0 99;spring 9 1 99;summer 1 1 99;autumn 1 1 99;winter 1 1 99;");
        for (int i = 0; i < 4; i++) {
            x.weeks(30);
        }
        check.due("ten springs", x.child(0, 2), 9);
        x.weeks(8);
        check.due("one week is left", x.child(0, 2), 1);
        check.due("and was learnt in", x.child(0, 3), 98);
        check.due("one more", x.home(0), 1);
        x.weeks(1);
        check.due("free", x.child(0, 1), NONE);
        check.due("all was learnt", x.child(0, 3), 99);
    }

    /** "Then LEFT is 1 less: is that 0, it is the next SEASON, LEFT is its LENGTH. WEEK is 1 more." */
    private void leftRunsOut() {
        SeasonBound x = Check.told("spring 1 1 1;summer 9 1 1;autumn 2 1 1;winter 1 1 1;");
        int[] seasons = {0, 1, 1, 1, 1, 1, 1, 1, 1, 1, 2, 2, 3, 0, 1};
        int[] left = {1, 9, 8, 7, 6, 5, 4, 3, 2, 1, 2, 1, 1, 1, 9};
        for (int week = 0; week < seasons.length; week++) {
            check.due("season of week " + week, x.rule(2), seasons[week]);
            check.due("left in week " + week, x.rule(3), left[week]);
            check.due("week, though nobody lives", x.rule(1), week);
            x.weeks(1);
        }
    }

    private void leftStaysWhenSet() {
        SeasonBound x = new SeasonBound();
        x.set(0, 0, 1);
        x.set(1, 0, 9);
        check.due("left stays above the length", x.rule(3), 3);
        x.weeks(2);
        check.due("still spring", x.rule(2), 0);
        x.set(0, 0, 9);
        check.due("left stays below the length", x.rule(3), 1);
        x.weeks(1);
        check.due("summer", x.rule(2), 1);
        check.due("by its new length", x.rule(3), 9);
        x.weeks(9 + 6);
        check.due("spring", x.rule(2), 0);
        check.due("by its new length", x.rule(3), 9);
    }

    /** "round and round". */
    private void winterToSpring() {
        SeasonBound x = Check.told("plain 3 99;plain 0 99;spring 4 1 99;winter 1 1 99;");
        x.weeks(10);
        check.due("winter", x.rule(2), 3);
        check.due("its only week", x.rule(3), 1);
        check.due("winter's lives", x.rule(4), 1);
        check.due("spring is next", x.runs(1, 4), 0);
        x.weeks(1);
        check.due("spring", x.rule(2), 0);
        check.due("all of it is left", x.rule(3), 4);
        check.due("spring's lives", x.rule(4), 2);
        SeasonBound longest = Check.told("spring 9 1 1;summer 9 1 1;autumn 9 1 1;winter 9 1 1;");
        check.due("the last of the longest year", longest.runs(35, 4), 3);
        check.due("round", longest.runs(36, 4), 0);
        SeasonBound shortest = Check.told("spring 1 1 1;summer 1 1 1;autumn 1 1 1;winter 1 1 1;");
        for (int n = 0; n <= 60; n++) {
            check.due("round and round", shortest.runs(n, 4), n % 4);
        }
    }

    /** Promise 14: "FULL: WEEK would be 1000 or more". */
    private void weeksUpTo999() {
        for (int n = 1; n <= 30; n++) {
            SeasonBound x = atWeek("plain 9 1;", 1000 - n);
            check.due("to 1000 by " + n, x.weeks(n), FULL);
            check.due("the week stays", x.rule(1), 1000 - n);
            check.due("to 999 by " + (n - 1), x.weeks(n - 1), 0);
            check.due("week", x.rule(1), 999);
            check.due("none is taken still", x.weeks(0), 0);
            check.due("one is not", x.weeks(1), FULL);
            check.due("thirty are not", x.weeks(30), FULL);
            check.due("thirty-one are bad", x.weeks(31), BAD);
        }
    }

    /** "n WEEKS (0 to 30): by how much SKILLS are more". */
    private void weeksOfNoneAndThirty() {
        SeasonBound x = Check.told("quick 0 99;quick 0 99;quick 0 99;quick 0 99;quick 0 99;spring 9 9 99;");
        check.due("none", x.weeks(0), 0);
        check.due("none have passed", x.rule(1), 0);
        check.due("one", x.weeks(1), 90);
        check.due("thirty, to the top", x.weeks(30), 405);
        check.due("week", x.rule(1), 31);
        check.due("thirty-one", x.weeks(31), BAD);
        check.due("less than none", x.weeks(-1), BAD);
        check.due("week", x.rule(1), 31);
        check.due("nobody learns", new SeasonBound().weeks(30), 0);
    }

    /** Promise 15: "n of them (0 to 60)". */
    private void runsOfNoneAndSixty() {
        SeasonBound x = Check.told("plain 3 15;slow 3 99;spring 3 5 99;winter 3 2 99;");
        int[] none = {0, 0, 0, 0, 0};
        int[] sixty = {45, 1, 45, 30, 0};
        int[] fiftyNine = {42, 0, 45, 28, 3};
        for (int what = 0; what < 5; what++) {
            check.due("behind none, " + what, x.runs(0, what), none[what]);
            check.due("behind 60, " + what, x.runs(60, what), sixty[what]);
            check.due("behind 59, " + what, x.runs(59, what), fiftyNine[what]);
            check.due("behind 61, " + what, x.runs(61, what), BAD);
            check.due("of nobody, " + what, new SeasonBound().runs(60, what), what == 2 ? 60 : 0);
        }
        check.due("with a free one somebody always lives", Check.told("plain 9 1;").runs(60, 2), 0);
        check.due("nobody in the first week", x.runs(1, 2), 1);
        check.due("nobody up to winter", x.runs(9, 2), 9);
        check.due("somebody in winter", x.runs(12, 2), 9);
        check.due("nobody again", x.runs(13, 2), 10);
    }

    /** "BY WEEKS: as it would be from now on", and that is not kept from going past WEEK 999. */
    private void runsPast999() {
        SeasonBound x = atWeek("plain 9 1;", 999);
        check.due("summer", x.rule(2), 1);
        x.bind(0, 2, 9);
        check.due("skills", x.runs(60, 0), 9);
        check.due("season", x.runs(3, 4), 2);
        check.due("skill", x.ahead(0, 4, 0), 1);
        check.due("free", x.home(0), 30);
        check.due("place", x.place(0, 60, 1), 9);
        check.due("by a seed", x.drift(0, 3, 0), 0);
        check.due("ask", x.ask(2, 0), 40);
        check.due("the week stays", x.rule(1), 999);
    }

    /** Promise 16. */
    private void aheadOfNoneAndSixty() {
        SeasonBound x = Check.told("plain 0 99;plain 9 1;spring 9 1 99;summer 1 1 1;autumn 1 1 1;winter 1 1 1;");
        int[] now = {0, 0, 99};
        int[] sixty = {45, 45, 54};
        int[] free = {0, 60, 0};
        for (int what = 0; what < 3; what++) {
            check.due("behind none, " + what, x.ahead(0, 0, what), now[what]);
            check.due("behind 60, " + what, x.ahead(0, 60, what), sixty[what]);
            check.due("free, behind 60, " + what, x.ahead(1, 60, what), free[what]);
            check.due("behind 61, " + what, x.ahead(0, 61, what), BAD);
        }
    }

    /** A spring of four weeks at first, of three from then on: all comes a week later than by the year of twelve. */
    private static SeasonBound weekLater(String children) {
        SeasonBound x = Check.told(children + "spring 4 1 99;");
        x.set(0, 0, 3);
        return x;
    }

    /** Promise 17: "behind how many (0 to 60)", "NONE: behind none". */
    private void homeAtTheLast() {
        SeasonBound x = weekLater("plain 3 15;plain 9 1;plain 0 1;plain 3 14;");
        check.due("behind 61", x.home(0), NONE);
        check.due("behind 60", x.home(3), 60);
        check.due("free now", x.home(1), 0);
        check.due("behind the next", x.home(2), 1);
        x.weeks(1);
        check.due("behind 60 then", x.home(0), 60);
        check.due("behind 59 then", x.home(3), 59);
        check.due("free by now", x.home(2), 0);
    }

    /** Promise 18: "LIVE in the WEEK that is next". */
    private void meetAtTheLast() {
        SeasonBound x = weekLater("plain 0 99;plain 2 15;plain 9 1;plain 1 99;");
        check.due("behind 61", x.meet(0, 1), NONE);
        check.due("behind 0", x.meet(0, 2), 0);
        check.due("the last of spring is behind", x.meet(2, 3), 4);
        x.weeks(1);
        check.due("behind 60", x.meet(0, 1), 60);
        check.due("either way", x.meet(1, 0), 60);
        check.due("alike", x.meet(2, 2), BAD);
        check.due("two that are free", Check.told("plain 9 1;plain 9 1;").meet(1, 0), 0);
        check.due("free from the next week on", Check.told("plain 0 1;plain 1 2;").meet(0, 1), 3);
    }
}
