/** Each promise of the document with answers worked out by hand: the ordinary, the edges, the wrong. */
public final class PromiseTest {
    private static final int BAD = SeasonBound.BAD, STATE = SeasonBound.STATE;
    private static final int FULL = SeasonBound.FULL, NONE = SeasonBound.NONE;
    private static final int MIN = Integer.MIN_VALUE, MAX = Integer.MAX_VALUE;

    private final Check check = new Check();
    private int promise;

    public static void main(String[] args) {
        PromiseTest test = new PromiseTest();
        test.theText();
        test.whatIsChanged();
        test.weeksThatRun();
        test.whatIsBest();
        test.whatIsLetOff();
        test.fromSkills();
        test.imagesAndSheets();
        test.check.finish("PromiseTest");
    }

    private void due(String call, long got, long want) {
        check.due("promise " + promise + ", " + call, got, want);
    }

    private void theText() {
        newObject();
        feed();
        end();
        text();
        textFaults();
        rule();
        child();
        season();
    }

    private void whatIsChanged() {
        alter();
        set();
        bind();
        free();
        born();
    }

    private void weeksThatRun() {
        weeks();
        weekOrder();
        runs();
        ahead();
        home();
        meet();
    }

    private void whatIsBest() {
        place();
        swap();
        span();
        gift();
        term();
        kind();
    }

    private void whatIsLetOff() {
        luck();
        mean();
    }

    private void fromSkills() {
        see();
        forget();
        kinds();
        seasons();
        gifts();
        ask();
    }

    private void imagesAndSheets() {
        drift();
        keep();
        back();
        sheet();
        lay();
        read();
        torn();
        count();
    }

    private void newObject() {
        promise = 1;
        SeasonBound x = new SeasonBound();
        int[] rules = {0, 0, 0, 3, 0, 0};
        for (int w = 0; w < 6; w++) {
            due("rule " + w, x.rule(w), rules[w]);
        }
        for (int s = 0; s < 4; s++) {
            due("length", x.season(s, 0), 3);
            due("gift", x.season(s, 1), 1);
            due("most", x.season(s, 2), 99);
            due("bound", x.season(s, 3), 0);
            due("lay", x.lay(s, 0, 1), -11);
        }
        due("child", x.child(0, 0), BAD);
        due("fault", x.fault(), 0);
        due("torn", x.torn(), 0);
        due("tape", x.count(2), 0);
        due("images", x.count(1), 0);
        due("BAD", BAD, -1);
        due("STATE", STATE, -2);
        due("FULL", FULL, -3);
        due("NONE", NONE, -4);
    }

    private void feed() {
        promise = 2;
        SeasonBound x = new SeasonBound();
        due("least", x.feed(0), 1);
        due("most", x.feed(127), 2);
        for (int c : new int[] {-1, 128, MIN, MAX}) {
            due("feed " + c, x.feed(c), BAD);
        }
        for (int i = 3; i <= 160; i++) {
            due("feed", x.feed(' '), i);
        }
        due("one too many", x.feed(' '), FULL);
        due("a bad one ahead of full", x.feed(128), BAD);
        due("tape", x.count(2), 160);
        x.end(159);
        due("room again", x.feed(' '), 160);
    }

    private void end() {
        promise = 3;
        SeasonBound x = new SeasonBound();
        due("of nothing", x.end(0), 0);
        due("more than there are", x.end(1), BAD);
        Check.feed(x, "plain 9 1;#");
        due("below", x.end(-1), BAD);
        due("above", x.end(12), BAD);
        due("least int", x.end(MIN), BAD);
        due("as it is", x.end(11), 11);
        due("cut", x.end(10), 11);
        due("what is left is read", x.text(), 1);
        Check.feed(x, "#");
        due("cut to nothing", x.end(0), 1);
        due("empty text", x.text(), 0);
    }

    private void text() {
        promise = 4;
        SeasonBound x = Check.told("plain 1 5;");
        x.weeks(7);
        x.set(3, 0, 9);
        x.see(1, 0, 1);
        x.keep(0);
        x.keep(1);
        x.sheet(0, 0, 4);
        // What was tried out before leaves nothing behind.
        x.runs(9, 0);
        x.kinds(0);
        Check.feed(x, "spring 9 9 9;winter 8 8 8;orphan 9 1;orphan 9");
        due("a text that is not whole", x.text(), -10 - 45);
        x.runs(9, 0);
        Check.feed(x, "  quick2 07;slow 9 1 ;orphan 0 99;winter 4 9 0;spring 5 0 50;  ");
        due("five lines", x.text(), 5);
        due("tape is empty", x.count(2), 0);
        due("children", x.rule(0), 3);
        due("week", x.rule(1), 0);
        due("spring again", x.rule(2), 0);
        due("left is spring's length", x.rule(3), 5);
        due("kind", x.child(0, 0), 1);
        due("season", x.child(0, 1), 2);
        due("term", x.child(0, 2), 7);
        due("skill", x.child(0, 3), 0);
        due("age", x.child(0, 4), 0);
        due("one that is free", x.child(1, 1), NONE);
        due("has no term", x.child(1, 2), 0);
        due("longest term", x.child(2, 2), 99);
        due("winter's length", x.season(3, 0), 4);
        due("winter's gift", x.season(3, 1), 9);
        due("winter's most", x.season(3, 2), 0);
        due("one not told is as at first", x.season(1, 0), 3);
        due("nothing is seen", x.count(0), 0);
        due("images are gone", x.count(1), 0);
        due("none to go back to", x.back(0), STATE);
        due("sheets stay", x.count(3), 4);
        due("empty text", x.text(), 0);
        due("tells all", x.rule(0), 0);
        due("lengths", x.count(4), 12);
    }

    private void textFaults() {
        promise = 5;
        faulty("#", 0, 1);
        faulty("  Plain 9 1;", 2, 1);
        faulty("plain 9 1;\n", 10, 1);
        faulty("plain 9 123;", 8, 1);
        faulty("plain 9 000;", 8, 1);
        faulty("123", 0, 1);
        faulty("plain 9 1,", 9, 1);
        faulty("plains 9 1;", 0, 2);
        faulty("plai 9 1;", 0, 2);
        faulty("plain9 1;x", 9, 2);
        faulty("zlain 9 1;", 0, 2);
        faulty("qlain 9 1;", 0, 2);
        faulty(";", 0, 2);
        faulty("7", 0, 2);
        faulty("plain ; 1;", 6, 2);
        faulty("plain plain", 6, 2);
        faulty("plain", 5, 2);
        faulty("plain   ", 8, 2);
        faulty("plain 9 1", 9, 2);
        faulty("plain 9 1 1;", 10, 2);
        faulty("plain 9 1;;", 10, 2);
        faulty("plain 91;", 6, 3);
        faulty("plain 4 1;", 6, 3);
        faulty("plain 8 1;", 6, 3);
        faulty("plain 10 1;", 6, 3);
        faulty("plain 3 0;", 8, 3);
        faulty("plain 9 0;", 8, 3);
        faulty("spring 0 0 0;", 7, 3);
        faulty("spring 10 0 0;", 7, 3);
        faulty("spring 9 10 0;", 9, 3);
        faulty("spring 9 9 100;", 11, 1);
        faulty("autumn 9 9 99;autumn 9 9 99;", 14, 4);
        faulty("autumn 9 9 99;autumn", 14, 4);
        faulty("plain 9 1;plain 9 1;plain 9 1;plain 9 1;plain 9 1;slow", 50, 5);
        // What is met first counts, though worse stands behind it.
        faulty("plain 5 #", 6, 3);
        faulty("spring 0 100 x;", 7, 3);
        SeasonBound x = Check.told("plain 9 1;plain 9 1;plain 9 1;plain 9 1;slow 1 2;winter 9 9 99;");
        due("five children are taken", x.rule(0), 5);
        due("no fault", x.fault(), 0);
        StringBuilder full = new StringBuilder("plain 0 1;");
        while (full.length() < 160) {
            full.append(' ');
        }
        due("a full tape", Check.told(full.toString()).rule(0), 1);
    }

    private void faulty(String text, int place, int fault) {
        SeasonBound x = Check.told("slow 1 5;");
        x.weeks(4);
        x.keep(1);
        x.see(0, 0, 1);
        Check.feed(x, text);
        due("text '" + text + "'", x.text(), -10 - place);
        due("fault of '" + text + "'", x.fault(), fault);
        due("tape is empty", x.count(2), 0);
        due("what was told stays", x.child(0, 0), 2);
        due("so does the week", x.rule(1), 4);
        due("so does what was seen", x.count(0), 1);
        due("so do images", x.count(1), 1);
        due("so do children", x.rule(0), 1);
        x.text();
        due("the latest text counts", x.fault(), 0);
    }

    private void rule() {
        promise = 6;
        SeasonBound x = Check.told("plain 0 9;quick 1 9;slow 9 9;summer 2 3 99;");
        due("children", x.rule(0), 3);
        due("who lives in spring", x.rule(4), 5);
        x.weeks(4);
        due("week", x.rule(1), 4);
        due("summer", x.rule(2), 1);
        due("left", x.rule(3), 1);
        due("who lives in summer", x.rule(4), 6);
        due("skills", x.rule(5), 3 + 6);
        x.weeks(1);
        due("autumn", x.rule(2), 2);
        due("who lives in autumn", x.rule(4), 4);
        x.weeks(6);
        due("spring again", x.rule(2), 0);
        for (int w : new int[] {-1, 6, MIN, MAX}) {
            due("rule " + w, x.rule(w), BAD);
        }
    }

    private void child() {
        promise = 7;
        SeasonBound x = Check.told("plain 2 7;quick 2 1;slow 2 1;orphan 2 1;orphan 9 1;autumn 3 5 99;");
        int[] learns = {5, 10, 3, 4, NONE};
        for (int c = 0; c < 5; c++) {
            due("kind", x.child(c, 0), Math.min(c, 3));
            due("learns", x.child(c, 5), learns[c]);
        }
        due("season", x.child(0, 1), 2);
        due("season of a free one", x.child(4, 1), NONE);
        due("term", x.child(0, 2), 7);
        due("term of a free one", x.child(4, 2), 0);
        x.set(2, 1, 0);
        due("slow by no gift", x.child(2, 5), 0);
        due("orphan by no gift", x.child(3, 5), 1);
        x.set(2, 1, 4);
        due("slow by an even gift", x.child(2, 5), 2);
        x.weeks(7);
        due("skill", x.child(1, 3), 8);
        due("age", x.child(1, 4), 1);
        due("age of one that was free", x.child(4, 4), 7);
        due("free now", x.child(1, 5), NONE);
        for (int w : new int[] {-1, 6, MIN, MAX}) {
            due("what " + w, x.child(0, w), BAD);
            due("what of none " + w, x.child(5, w), BAD);
        }
        for (int c : new int[] {-1, 5, MIN, MAX}) {
            due("child " + c, x.child(c, 0), BAD);
        }
    }

    private void season() {
        promise = 8;
        SeasonBound x = Check.told("plain 2 7;quick 9 1;slow 2 1;autumn 4 5 6;");
        due("length", x.season(2, 0), 4);
        due("gift", x.season(2, 1), 5);
        due("most", x.season(2, 2), 6);
        due("who is bound", x.season(2, 3), 5);
        due("nobody", x.season(0, 3), 0);
        for (int w : new int[] {-1, 4, MIN, MAX}) {
            due("what " + w, x.season(0, w), BAD);
            due("season " + w, x.season(w, 0), BAD);
        }
    }

    private void alter() {
        promise = 9;
        SeasonBound x = Check.told("plain 0 7;");
        due("kind", x.alter(0, 0, 3), 0);
        due("kind was", x.alter(0, 0, 1), 3);
        due("kind is", x.child(0, 0), 1);
        due("skill", x.alter(0, 1, 99), 0);
        due("skill was", x.alter(0, 1, 0), 99);
        int[][] wrong = {{-1, 0, 0}, {1, 0, 0}, {0, -1, 0}, {0, 2, 0}, {0, 0, -1}, {0, 0, 4}, {0, 1, -1}, {0, 1, 100}, {MAX, MIN, MAX}};
        for (int[] w : wrong) {
            due("wrong", x.alter(w[0], w[1], w[2]), BAD);
        }
        due("kind stays", x.child(0, 0), 1);
        due("skill stays", x.child(0, 3), 0);
    }

    private void set() {
        promise = 10;
        SeasonBound x = new SeasonBound();
        due("length", x.set(0, 0, 9), 3);
        due("left stays", x.rule(3), 3);
        due("length was", x.set(0, 0, 1), 9);
        due("left stays", x.rule(3), 3);
        due("gift", x.set(0, 1, 0), 1);
        due("gift was", x.set(0, 1, 9), 0);
        due("most", x.set(3, 2, 0), 99);
        due("most was", x.set(3, 2, 99), 0);
        int[][] wrong = {{-1, 0, 1}, {4, 0, 1}, {0, -1, 1}, {0, 3, 1}, {0, 0, 0}, {0, 0, 10}, {0, 1, -1}, {0, 1, 10},
            {0, 2, -1}, {0, 2, 100}, {MIN, MAX, MIN}};
        for (int[] w : wrong) {
            due("wrong", x.set(w[0], w[1], w[2]), BAD);
        }
        due("length stays", x.season(0, 0), 1);
        due("gift stays", x.season(0, 1), 9);
        due("most stays", x.season(0, 2), 99);
        x.weeks(12);
        due("it is spring", x.rule(2), 0);
        due("by its new length", x.rule(3), 1);
    }

    private void bind() {
        promise = 11;
        SeasonBound x = Check.told("plain 9 1;plain 9 1;plain 3 1;");
        int[][] wrong = {{-1, 0, 1}, {3, 0, 1}, {0, -1, 1}, {0, 4, 1}, {0, 0, 0}, {0, 0, 100}, {2, 0, 0}, {MIN, MIN, MAX}};
        for (int[] w : wrong) {
            due("wrong", x.bind(w[0], w[1], w[2]), BAD);
        }
        due("it is bound", x.bind(2, 3, 1), STATE);
        due("first", x.bind(0, 0, 99), 1);
        due("second with winter's", x.bind(1, 3, 1), 2);
        due("term", x.child(0, 2), 99);
        due("season", x.child(1, 1), 3);
        due("bound now", x.bind(0, 0, 99), STATE);
    }

    private void free() {
        promise = 12;
        SeasonBound x = Check.told("plain 2 42;slow 9 1;");
        due("free", x.free(0), 42);
        due("season", x.child(0, 1), NONE);
        due("term", x.child(0, 2), 0);
        due("again", x.free(0), STATE);
        due("never bound", x.free(1), STATE);
        for (int c : new int[] {-1, 2, MIN, MAX}) {
            due("child " + c, x.free(c), BAD);
        }
    }

    private void born() {
        promise = 13;
        SeasonBound x = new SeasonBound();
        due("below", x.born(-1), BAD);
        due("above", x.born(4), BAD);
        for (int c = 0; c < 5; c++) {
            due("born", x.born(c % 4), c + 1);
            due("kind", x.child(c, 0), c % 4);
            due("free", x.child(c, 1), NONE);
            due("skill", x.child(c, 3), 0);
            due("age", x.child(c, 4), 0);
        }
        due("sixth", x.born(0), FULL);
        due("sixth, of no kind", x.born(4), BAD);
        // One that comes where another was before is new all the same.
        x.alter(4, 1, 50);
        x.weeks(3);
        x.text();
        for (int c = 0; c < 5; c++) {
            x.born(0);
        }
        due("skill of a new one", x.child(4, 3), 0);
        due("age of a new one", x.child(4, 4), 0);
    }

    private void weeks() {
        promise = 14;
        SeasonBound x = Check.told("plain 0 99;quick 1 2;spring 3 2 5;summer 1 7 99;");
        due("none", x.weeks(0), 0);
        due("two", x.weeks(2), 4);
        due("up to most", x.weeks(1), 1);
        due("summer", x.weeks(1), 14);
        due("nothing to learn", x.weeks(6), 0);
        due("spring, at most already", x.weeks(3), 0);
        due("free by the second summer", x.weeks(1), 14);
        due("term", x.child(1, 2), 0);
        due("skill", x.child(1, 3), 28);
        for (int n : new int[] {-1, 31, MIN, MAX}) {
            due("weeks " + n, x.weeks(n), BAD);
        }
        SeasonBound late = Check.told("plain 9 1;");
        for (int i = 0; i < 33; i++) {
            late.weeks(30);
        }
        due("week", late.rule(1), 990);
        due("would be 1000", late.weeks(10), FULL);
        due("bad ahead of full", late.weeks(31), BAD);
        due("nothing has changed", late.rule(1), 990);
        due("999", late.weeks(9), 0);
        due("week", late.rule(1), 999);
        due("age", late.child(0, 4), 999);
        due("one more", late.weeks(1), FULL);
        due("none more", late.weeks(0), 0);
        due("age is 999 at most", late.ahead(0, 60, 1), 999);
        due("the season runs on", late.runs(60, 4), (999 + 60) / 3 % 4);
    }

    private void weekOrder() {
        SeasonBound x = Check.told("plain 0 1;spring 1 5 3;");
        due("only up to most", x.weeks(1), 3);
        due("free with its last week", x.child(0, 2), 0);
        due("next season", x.rule(2), 1);
        due("left is its length", x.rule(3), 3);
        due("free, it lives", x.rule(4), 1);
        due("and learns nothing", x.weeks(30), 0);
        due("but ages", x.child(0, 4), 31);
        SeasonBound above = Check.told("plain 0 5;spring 9 5 3;");
        above.alter(0, 1, 50);
        due("above most it stays", above.weeks(2), 0);
        due("but its term runs", above.child(0, 2), 3);
    }

    private void runs() {
        promise = 15;
        SeasonBound x = Check.told("plain 0 4;slow 2 2;spring 2 3 99;autumn 1 3 99;");
        due("skills now", x.runs(0, 0), 0);
        due("skills", x.runs(6, 0), 6 + 2);
        due("nobody is free", x.runs(6, 1), 0);
        due("later both", x.runs(15, 1), 3);
        due("in summer and winter nobody lives", x.runs(9, 2), 6);
        due("ages", x.runs(9, 3), 3);
        due("ages of the free too", x.runs(60, 3), 4 + 49 + 2 + 45);
        due("season", x.runs(5, 4), 2);
        due("season behind sixty: six years of nine and six", x.runs(60, 4), 3);
        due("nothing has changed", x.rule(1), 0);
        due("with nobody, nobody lives", new SeasonBound().runs(60, 2), 60);
        for (int n : new int[] {-1, 61, MIN, MAX}) {
            due("weeks " + n, x.runs(n, 0), BAD);
            due("what " + n, x.runs(0, n), BAD);
        }
        due("what 5", x.runs(0, 5), BAD);
    }

    private void ahead() {
        promise = 16;
        SeasonBound x = Check.told("plain 9 1;quick 1 3;summer 2 2 9;");
        due("skill", x.ahead(1, 5, 0), 8);
        due("age", x.ahead(1, 5, 1), 2);
        due("term", x.ahead(1, 5, 2), 1);
        due("skill up to most", x.ahead(1, 60, 0), 9);
        due("age", x.ahead(0, 60, 1), 60);
        due("now", x.ahead(1, 0, 2), 3);
        due("nothing has changed", x.child(1, 2), 3);
        int[][] wrong = {{-1, 0, 0}, {2, 0, 0}, {0, -1, 0}, {0, 61, 0}, {0, 0, -1}, {0, 0, 3}};
        for (int[] w : wrong) {
            due("wrong", x.ahead(w[0], w[1], w[2]), BAD);
        }
    }

    private void home() {
        promise = 17;
        SeasonBound x = Check.told("plain 9 1;plain 0 3;plain 3 15;plain 3 16;plain 0 16;");
        due("free now", x.home(0), 0);
        due("this spring", x.home(1), 3);
        due("the fifth winter's end, sixty", x.home(2), 60);
        due("later", x.home(3), NONE);
        due("the sixth spring", x.home(4), NONE);
        x.weeks(1);
        due("the sixth spring's first week", x.home(4), 60);
        for (int c : new int[] {-1, 5, MIN, MAX}) {
            due("child " + c, x.home(c), BAD);
        }
    }

    private void meet() {
        promise = 18;
        SeasonBound x = Check.told("plain 0 99;plain 9 1;plain 1 99;plain 1 3;plain 2 15;");
        due("now", x.meet(0, 1), 0);
        due("either way", x.meet(1, 0), 0);
        due("in summer", x.meet(1, 2), 3);
        due("both with summer", x.meet(3, 2), 3);
        due("one free, the other's spring", x.meet(0, 3), 12);
        due("never", x.meet(0, 2), NONE);
        due("free behind fifty-seven, then it is spring at sixty", x.meet(0, 4), 60);
        due("alike", x.meet(1, 1), BAD);
        for (int c : new int[] {-1, 5, MIN, MAX}) {
            due("child " + c, x.meet(c, 0), BAD);
            due("other child " + c, x.meet(0, c), BAD);
        }
    }

    private void place() {
        promise = 19;
        SeasonBound x = Check.told("plain 0 2;plain 9 1;spring 3 1 99;summer 3 2 99;autumn 3 2 99;winter 3 2 3;");
        due("in spring alone", x.place(0, 3, 0), 0);
        due("two weeks of it", x.place(0, 3, 1), 2);
        due("summer, the first of two", x.place(0, 9, 0), 1);
        due("by its term", x.place(0, 9, 1), 4);
        due("twelve of it, if free", x.place(1, 60, 1), 24);
        due("where", x.place(1, 60, 0), 1);
        due("behind none all are alike", x.place(1, 0, 0), 0);
        x.alter(1, 1, 7);
        due("how much it has", x.place(1, 0, 1), 7);
        due("nothing has changed", x.child(1, 1), NONE);
        due("nor here", x.child(0, 1), 0);
        int[][] wrong = {{-1, 0, 0}, {2, 0, 0}, {0, -1, 0}, {0, 61, 0}, {0, 0, -1}, {0, 0, 2}};
        for (int[] w : wrong) {
            due("wrong", x.place(w[0], w[1], w[2]), BAD);
        }
    }

    private void swap() {
        promise = 20;
        SeasonBound x = Check.told("plain 1 2;plain 9 1;plain 0 9;quick 1 9;quick 1 9;summer 3 1 99;");
        due("quick to spring", x.swap(3, 0), 23);
        due("by three more", x.swap(3, 1), 6);
        due("behind six all is alike", x.swap(6, 0), NONE);
        x.set(1, 1, 2);
        due("with more gift in summer, the longer term there", x.swap(6, 0), 2);
        due("how much", x.swap(6, 1), 2 + 6 + 12 + 12);
        due("behind none", x.swap(0, 0), NONE);
        due("behind none, how much", x.swap(0, 1), NONE);
        due("nothing has changed", x.child(2, 1), 0);
        due("nobody", new SeasonBound().swap(9, 0), NONE);
        due("one free", Check.told("plain 1 2;quick 9 1;").swap(3, 0), NONE);
        for (int n : new int[] {-1, 61, MIN, MAX}) {
            due("weeks " + n, x.swap(n, 0), BAD);
            due("what " + n, x.swap(0, n), BAD);
        }
        due("what 2", x.swap(0, 2), BAD);
    }

    private void span() {
        promise = 21;
        SeasonBound x = Check.told("plain 1 99;plain 2 99;summer 3 1 99;autumn 3 2 99;");
        due("as long as may be", x.span(2, 20, 0), 9);
        due("how much", x.span(2, 20, 1), 3 + 18);
        due("left stays: spring's length does not tell yet", x.span(0, 12, 0), 1);
        due("summer had better be short", x.span(1, 6, 0), 1);
        due("and then", x.span(1, 6, 1), 1 + 4);
        due("neither short nor long", x.span(1, 9, 0), 3);
        due("and then", x.span(1, 9, 1), 3 + 6);
        due("behind none", x.span(1, 0, 0), 1);
        due("nothing has changed", x.season(1, 0), 3);
        int[][] wrong = {{-1, 0, 0}, {4, 0, 0}, {0, -1, 0}, {0, 61, 0}, {0, 0, -1}, {0, 0, 2}};
        for (int[] w : wrong) {
            due("wrong", x.span(w[0], w[1], w[2]), BAD);
        }
    }

    private void gift() {
        promise = 22;
        SeasonBound x = Check.told("plain 1 99;plain 2 99;slow 2 99;summer 3 1 99;autumn 3 2 99;");
        due("summer's is worth as much as autumn's for a while", x.gift(7, 0), 1);
        due("how much", x.gift(7, 1), 6 + 2 + 1);
        due("autumn's: a slow one learns more too", x.gift(9, 0), 2);
        due("how much", x.gift(9, 1), 3 + 9 + 6);
        due("spring's, where it is all", Check.told("plain 0 9;").gift(3, 0), 0);
        due("none in spring", x.gift(3, 0), NONE);
        due("none in spring, how much", x.gift(3, 1), NONE);
        x.set(1, 1, 9);
        x.set(2, 1, 9);
        due("9 at most", x.gift(9, 0), NONE);
        due("nothing has changed", x.season(0, 1), 1);
        for (int n : new int[] {-1, 61, MIN, MAX}) {
            due("weeks " + n, x.gift(n, 0), BAD);
            due("what " + n, x.gift(0, n), BAD);
        }
        due("what 2", x.gift(0, 2), BAD);
    }

    private void term() {
        promise = 23;
        SeasonBound x = Check.told("quick 1 1;plain 9 1;summer 3 2 11;");
        due("one", x.term(0, 4, 4), 1);
        due("one, though there were weeks for more", x.term(0, 6, 4), 1);
        due("two, though its term is one", x.term(0, 5, 5), 2);
        due("three, up to most", x.term(0, 6, 11), 3);
        due("above most", x.term(0, 60, 12), NONE);
        due("too early", x.term(0, 5, 9), NONE);
        due("nothing to be learnt", x.term(0, 0, 0), 1);
        due("but not more", x.term(0, 3, 1), NONE);
        due("free", x.term(1, 4, 4), STATE);
        due("bad ahead of free", x.term(1, 61, 4), BAD);
        due("nothing has changed", x.child(0, 2), 1);
        int[][] wrong = {{-1, 0, 0}, {2, 0, 0}, {0, -1, 0}, {0, 61, 0}, {0, 0, -1}, {0, 0, 100}};
        for (int[] w : wrong) {
            due("wrong", x.term(w[0], w[1], w[2]), BAD);
        }
    }

    private void kind() {
        promise = 24;
        SeasonBound x = Check.told("plain 0 9;plain 1 9;plain 2 9;plain 9 9;spring 3 3 99;summer 3 2 99;autumn 3 0 99;");
        due("quick", x.kind(0, 3, 0), 1);
        due("skills", x.kind(0, 6, 1), 18 + 6);
        due("orphan, where there is no gift", x.kind(2, 9, 0), 3);
        due("skills", x.kind(2, 9, 1), 9 + 6 + 3);
        due("free, the first", x.kind(3, 9, 0), 0);
        x.set(1, 1, 1);
        due("quick, the first of two", x.kind(1, 6, 0), 1);
        due("nothing has changed", x.child(1, 0), 0);
        int[][] wrong = {{-1, 0, 0}, {4, 0, 0}, {0, -1, 0}, {0, 61, 0}, {0, 0, -1}, {0, 0, 2}};
        for (int[] w : wrong) {
            due("wrong", x.kind(w[0], w[1], w[2]), BAD);
        }
    }

    private void luck() {
        promise = 25;
        SeasonBound x = Check.told("plain 0 2;plain 9 1;spring 9 4 7;");
        fraction("one of two weeks", x.luck(3, 0, 8, 4, 0), x.luck(3, 0, 8, 4, 1), 91, 100);
        fraction("both of them", x.luck(3, 0, 8, 7, 0), x.luck(3, 0, 8, 7, 1), 49, 100);
        fraction("above most", x.luck(3, 0, 8, 8, 0), x.luck(3, 0, 8, 8, 1), 0, 1);
        fraction("surely", x.luck(3, 0, 8, 0, 0), x.luck(3, 0, 8, 0, 1), 1, 1);
        fraction("never let off", x.luck(0, 0, 2, 7, 0), x.luck(0, 0, 2, 7, 1), 1, 1);
        fraction("always let off", x.luck(10, 0, 2, 1, 0), x.luck(10, 0, 2, 1, 1), 0, 1);
        fraction("behind none", x.luck(5, 0, 0, 1, 0), x.luck(5, 0, 0, 1, 1), 0, 1);
        fraction("one that is free", x.luck(5, 1, 8, 1, 0), x.luck(5, 1, 8, 1, 1), 0, 1);
        x.bind(1, 0, 8);
        x.set(0, 1, 1);
        x.set(0, 2, 99);
        fraction("all of eight", x.luck(9, 1, 8, 8, 0), x.luck(9, 1, 8, 8, 1), 1, 100000000);
        int[][] wrong = {{-1, 0, 0, 0, 0}, {11, 0, 0, 0, 0}, {0, -1, 0, 0, 0}, {0, 2, 0, 0, 0}, {0, 0, -1, 0, 0}, {0, 0, 9, 0, 0},
            {0, 0, 0, -1, 0}, {0, 0, 0, 100, 0}, {0, 0, 0, 0, -1}, {0, 0, 0, 0, 2}};
        for (int[] w : wrong) {
            due("wrong", x.luck(w[0], w[1], w[2], w[3], w[4]), BAD);
        }
    }

    private void fraction(String what, long above, long below, long wantAbove, long wantBelow) {
        due(what + ", numerator", above, wantAbove);
        due(what + ", denominator", below, wantBelow);
    }

    private void mean() {
        promise = 26;
        SeasonBound x = Check.told("plain 0 2;quick 0 1;plain 9 1;spring 9 4 7;");
        x.alter(2, 1, 50);
        // plain: 0, 4 or 7; quick: 0 or 7.
        fraction("by three", x.mean(3, 8, 0), x.mean(3, 8, 1), 5000 + 42 * 4 + 49 * 7 + 70 * 7, 100);
        fraction("always", x.mean(0, 8, 0), x.mean(0, 8, 1), 64, 1);
        fraction("never", x.mean(10, 8, 0), x.mean(10, 8, 1), 50, 1);
        fraction("behind none", x.mean(5, 0, 0), x.mean(5, 0, 1), 50, 1);
        fraction("nobody", new SeasonBound().mean(5, 8, 0), new SeasonBound().mean(5, 8, 1), 0, 1);
        int[][] wrong = {{-1, 0, 0}, {11, 0, 0}, {0, -1, 0}, {0, 9, 0}, {0, 0, -1}, {0, 0, 2}};
        for (int[] w : wrong) {
            due("wrong", x.mean(w[0], w[1], w[2]), BAD);
        }
    }

    private void see() {
        promise = 27;
        SeasonBound x = Check.told("plain 0 2;");
        int[][] wrong = {{-1, 0, 0}, {31, 0, 0}, {0, -1, 0}, {0, 1, 0}, {0, 0, -1}, {0, 0, 100}};
        for (int[] w : wrong) {
            due("wrong", x.see(w[0], w[1], w[2]), BAD);
        }
        for (int i = 1; i <= 6; i++) {
            due("see", x.see(30, 0, 99), i);
        }
        due("seventh", x.see(0, 0, 0), FULL);
        due("bad ahead of full", x.see(31, 0, 0), BAD);
        due("seen", x.count(0), 6);
    }

    private void forget() {
        promise = 28;
        SeasonBound x = Check.told("plain 0 2;");
        due("nothing", x.forget(0), 0);
        due("one of none", x.forget(1), BAD);
        x.see(1, 0, 1);
        x.see(1, 0, 9);
        due("below", x.forget(-1), BAD);
        due("above", x.forget(3), BAD);
        due("all stay", x.forget(2), 2);
        due("they don't fit", x.kinds(0), 0);
        due("the first alone", x.forget(1), 2);
        due("that fits", x.kinds(0), 0b0101);
        due("none", x.forget(0), 1);
        due("all fit", x.kinds(0), 15);
    }

    private void kinds() {
        promise = 29;
        SeasonBound x = Check.told("plain 0 9;plain 9 1;spring 3 1 99;");
        due("nothing seen", x.kinds(0), 15);
        x.see(2, 0, 2);
        due("plain, slow", x.kinds(0), 0b0101);
        due("any, of another", x.kinds(1), 15);
        x.alter(0, 0, 1);
        due("what it is does not tell", x.kinds(0), 0b0101);
        due("of another none: all else is as it is", x.kinds(1), 0);
        x.weeks(1);
        due("from now on: quick or orphan would have four more", x.kinds(0), 0);
        for (int c : new int[] {-1, 2, MIN, MAX}) {
            due("child " + c, x.kinds(c), BAD);
        }
    }

    private void seasons() {
        promise = 30;
        SeasonBound x = Check.told("plain 0 9;plain 9 1;autumn 3 2 99;");
        due("nothing seen", x.seasons(0), 15);
        x.see(6, 0, 3);
        due("spring, summer", x.seasons(0), 3);
        x.see(3, 0, 0);
        due("summer", x.seasons(0), 2);
        x.see(30, 0, 99);
        due("none", x.seasons(0), 0);
        due("free", x.seasons(1), STATE);
        due("nothing has changed", x.child(0, 1), 0);
        for (int c : new int[] {-1, 2, MIN, MAX}) {
            due("child " + c, x.seasons(c), BAD);
        }
    }

    private void gifts() {
        promise = 31;
        SeasonBound x = Check.told("slow 0 9;quick 1 9;summer 3 1 20;");
        due("nothing seen", x.gifts(0), 1023);
        x.see(3, 0, 6);
        due("a slow one's, half up", x.gifts(0), 0b11000);
        due("not of summer's, as it is", x.gifts(1), 0);
        x.set(0, 1, 3);
        due("of summer's any", x.gifts(1), 1023);
        x.see(5, 1, 20);
        due("up to most", x.gifts(1), 0b1111100000);
        due("nothing has changed", x.season(1, 1), 1);
        for (int s : new int[] {-1, 4, MIN, MAX}) {
            due("season " + s, x.gifts(s), BAD);
        }
    }

    private void ask() {
        promise = 32;
        SeasonBound x = Check.told("plain 9 1;slow 0 9;plain 0 9;plain 1 9;spring 3 1 5;");
        // Slow: 0, 1 1, 2 2, 3 3, 4 4, 5 behind one week; plain: 0, 1, 2, 3, 4 and five at most.
        due("one week, the slow one", x.ask(0, 0), 11);
        due("two are left at the worst", x.ask(0, 1), 2);
        x.set(0, 2, 8);
        due("8 and 9 are alike", x.ask(0, 1), 2);
        x.set(0, 2, 99);
        due("the plain one tells all", x.ask(0, 0), 12);
        due("one is left", x.ask(0, 1), 1);
        due("summer's, behind four weeks", x.ask(1, 0), 43);
        due("nobody learns of autumn's", x.ask(2, 0), NONE);
        due("nobody, how many", x.ask(2, 1), NONE);
        x.see(1, 2, 4);
        due("known already", x.ask(0, 0), NONE);
        x.see(1, 2, 5);
        due("none fits", x.ask(0, 0), NONE);
        due("nobody there", new SeasonBound().ask(0, 0), NONE);
        SeasonBound twins = Check.told("plain 0 9;plain 0 9;slow 0 9;spring 3 3 99;");
        due("the first of two, in the first of weeks", twins.ask(0, 0), 10);
        twins.see(2, 2, 4);
        due("of two that are left", twins.gifts(0), 0b11000);
        due("the same", twins.ask(0, 0), 10);
        due("one is left", twins.ask(0, 1), 1);
        SeasonBound slow = Check.told("slow 0 9;slow 1 9;spring 3 3 99;");
        slow.see(2, 0, 4);
        due("a slow one does not tell more", slow.ask(0, 0), NONE);
        for (int s : new int[] {-1, 4, MIN, MAX}) {
            due("season " + s, x.ask(s, 0), BAD);
            due("what " + s, x.ask(0, s), BAD);
        }
        due("what 2", x.ask(0, 2), BAD);
    }

    private void drift() {
        promise = 33;
        SeasonBound x = Check.told("plain 9 1;");
        // Seed 0 becomes 12345 (got 0), then -740551042 (got 21468: season 3, for 1 and 4).
        due("spring, for one", x.drift(0, 1, 0), 1);
        due("winter's week is far", x.drift(0, 2, 0), 1);
        due("ages", x.drift(0, 2, 1), 1);
        x.set(3, 1, 2);
        due("three weeks of winter", x.drift(0, 12, 0), 1 + 6);
        due("ages", x.drift(0, 12, 1), 4);
        due("five of them in all", x.drift(0, 24, 0), 1 + 10);
        due("nothing has changed", x.rule(1), 0);
        due("nor of the child", x.child(0, 1), NONE);
        due("least", x.drift(0, 0, 0), BAD);
        due("most", x.drift(0, 61, 0), BAD);
        due("what below", x.drift(0, 1, -1), BAD);
        due("what above", x.drift(0, 1, 2), BAD);
        SeasonBound three = Check.told("plain 9 1;plain 9 1;plain 9 1;spring 1 1 99;summer 2 2 99;autumn 1 3 99;winter 2 4 99;");
        due("sixty weeks of three", three.drift(7, 60, 0), 105);
        due("their ages", three.drift(7, 60, 1), 45);
        SeasonBound empty = new SeasonBound();
        due("nobody", empty.drift(7, 9, 0), STATE);
        due("bad ahead of nobody", empty.drift(7, 0, 0), BAD);
    }

    private void keep() {
        promise = 34;
        SeasonBound x = new SeasonBound();
        due("first", x.keep(0), 0);
        due("again", x.keep(0), 1);
        due("the other", x.keep(1), 0);
        for (int k : new int[] {-1, 2, MIN, MAX}) {
            due("image " + k, x.keep(k), BAD);
        }
        due("images", x.count(1), 2);
    }

    private void back() {
        promise = 35;
        SeasonBound x = Check.told("plain 1 9;quick 9 1;summer 5 4 9;");
        due("none yet", x.back(1), STATE);
        x.weeks(4);
        x.see(2, 0, 9);
        x.keep(1);
        x.born(3);
        x.set(1, 0, 1);
        x.set(1, 1, 0);
        x.set(1, 2, 99);
        x.alter(0, 0, 3);
        x.free(0);
        x.forget(0);
        x.weeks(9);
        x.feed(' ');
        due("week", x.back(1), 4);
        due("children", x.rule(0), 2);
        due("season", x.rule(2), 1);
        due("left", x.rule(3), 4);
        due("length", x.season(1, 0), 5);
        due("gift", x.season(1, 1), 4);
        due("most", x.season(1, 2), 9);
        due("kind", x.child(0, 0), 0);
        due("bound", x.child(0, 1), 1);
        due("term", x.child(0, 2), 8);
        due("skill", x.child(0, 3), 4);
        due("age", x.child(1, 4), 4);
        due("seen", x.count(0), 1);
        due("as it was seen", x.kinds(0), 0b1011);
        due("the tape stays", x.count(2), 1);
        x.weeks(1);
        due("the image stays", x.back(1), 4);
        due("the other is none", x.back(0), STATE);
        for (int k : new int[] {-1, 2, MIN, MAX}) {
            due("image " + k, x.back(k), BAD);
        }
    }

    private void sheet() {
        promise = 36;
        SeasonBound x = new SeasonBound();
        int[][] wrong = {{-1, 0, 0}, {4, 0, 0}, {0, -1, 0}, {0, 3, 0}, {0, 0, 41}, {0, 0, MAX}, {4, 0, -1}, {0, 3, -1}};
        for (int[] w : wrong) {
            due("wrong", x.sheet(w[0], w[1], w[2]), BAD);
        }
        due("below 0", x.sheet(0, 0, -1), -14);
        due("far below", x.sheet(0, 0, MIN), -14);
        due("nothing yet", x.count(3), NONE);
        due("empty", x.sheet(0, 0, 0), 1);
        due("cells", x.count(3), 0);
        due("most", x.sheet(0, 2, 40), 1);
        x.lay(0, 2, 1);
        due("refused", x.sheet(0, 2, -1), -14);
        due("stays", x.count(3), 40);
        x.born(0);
        due("new again", x.sheet(0, 2, 40), 1);
        due("its cells are 0", x.read(0, 2, 0, 1), -20);
    }

    private void lay() {
        promise = 37;
        SeasonBound x = Check.told("plain 9 1;");
        for (int k : new int[] {-1, 4, MIN, MAX}) {
            due("sheet " + k, x.lay(k, 0, 0), BAD);
        }
        due("nothing", x.lay(0, 0, 0), -11);
        due("nothing, out of it", x.lay(0, -1, 0), -11);
        for (int lane = 0; lane < 3; lane++) {
            x.sheet(lane, lane, 3);
            due("first", x.lay(lane, 0, 0), 1);
            due("last", x.lay(lane, 2, 0x10000 + 7), 1);
            for (int i : new int[] {-1, 3, 40, MIN, MAX}) {
                due("cell " + i, x.lay(lane, i, 0), -12);
            }
        }
        due("lowest bits of a byte", x.read(0, 0, 0, 1), 1);
        due("term", x.free(0), 7);
        due("of a short", x.read(1, 1, 0, 1), 1);
        due("term", x.free(0), 7);
        due("all of an int", x.read(2, 2, 0, 1), -20);
        x.lay(0, 2, 128);
        due("a byte has a sign", x.read(0, 0, 0, 1), -20);
        x.lay(1, 2, 0x8001);
        due("a short has a sign", x.read(1, 1, 0, 1), -20);
        x.lay(0, 2, 0x101);
        due("bits above are dropped", x.read(0, 0, 0, 1), 1);
        due("term", x.free(0), 1);
        x.lay(1, 2, 0x101);
        due("a short is longer", x.read(1, 1, 0, 1), -20);
        due("of an empty one", x.sheet(3, 0, 0), 1);
        due("no cell", x.lay(3, 0, 0), -12);
    }

    private static void layRow(SeasonBound x, int k, int... cells) {
        for (int i = 0; i < cells.length; i++) {
            x.lay(k, i, cells[i]);
        }
    }

    private void read() {
        promise = 38;
        SeasonBound x = Check.told("plain 9 1;plain 9 1;plain 9 1;");
        int[][] wrong = {{-1, 0, 0, 0}, {4, 0, 0, 0}, {0, -1, 0, 0}, {0, 3, 0, 0}, {0, 0, 0, -1}, {0, 0, 0, 14}};
        for (int[] w : wrong) {
            due("wrong", x.read(w[0], w[1], w[2], w[3]), BAD);
        }
        x.sheet(1, 1, 11);
        layRow(x, 1, 5, 0, 1, 9, 2, 3, 99, 1, 1, 100, 0);
        due("none", x.read(1, 1, 0, 0), 0);
        due("the first is refused", x.read(1, 1, 0, 3), -20);
        due("the third is whole and refused", x.read(1, 1, 1, 3), -22);
        due("none came", x.rule(5) + x.count(5), 0);
        x.sheet(1, 1, 9);
        layRow(x, 1, 5, 0, 1, 9, 2, 3, 99, 1, 1);
        due("two are whole, the third is not", x.read(1, 1, 1, 3), 2);
        due("first", x.child(0, 1), 1);
        due("its term", x.child(0, 2), 9);
        due("second", x.child(2, 1), 3);
        due("its term", x.child(2, 2), 99);
        due("third is free", x.child(1, 1), NONE);
        due("bound already", x.read(1, 1, 1, 1), -20);
        x.free(0);
        x.free(2);
        layRow(x, 1, 0, 0, 1, 0, 0, 1);
        due("the same twice", x.read(1, 1, 0, 2), -21);
        due("none came", x.child(0, 1), NONE);
        for (int f : new int[] {-1, 7, 8, 9, 40, MIN, MAX, MAX - 1, MAX - 2}) {
            due("from " + f, x.read(1, 1, f, 13), 0);
            due("nothing has changed", x.rule(4), 7);
        }
        layRow(x, 1, 0, 0, 0);
        due("refused ahead of what is torn", x.read(1, 1, 0, 13), -20);
    }

    private void torn() {
        promise = 39;
        SeasonBound x = Check.told("plain 9 1;plain 9 1;");
        x.read(0, 0, 0, 1);
        due("nothing", x.torn(), 1);
        x.sheet(0, 2, 4);
        layRow(x, 0, 0, 1, 2, 9);
        x.read(0, 1, 0, 1);
        due("another lane", x.torn(), 3);
        x.read(0, 0, 99, 1);
        due("another lane ahead of the cell", x.torn(), 3);
        x.read(0, 0, 0, 14);
        due("a bad one did not come to an end", x.torn(), 3);
        due("one came", x.read(0, 2, 0, 2), 1);
        due("index", x.torn(), 2);
        due("refused", x.read(0, 2, 0, 1), -20);
        due("that did not come to an end", x.torn(), 2);
        x.free(0);
        x.read(0, 2, 0, 1);
        due("whole", x.torn(), 0);
        x.read(0, 2, -1, 1);
        due("below", x.torn(), 2);
        due("none is read", x.read(3, 0, 0, 0), 0);
        due("so the machine finds nothing", x.torn(), 0);
    }

    private void count() {
        promise = 40;
        SeasonBound x = Check.told("plain 1 9;quick 9 1;slow 3 90;summer 5 4 9;");
        int[] counts = {0, 0, 0, NONE, 14, 99};
        for (int w = 0; w < 6; w++) {
            due("count " + w, x.count(w), counts[w]);
        }
        x.see(0, 0, 0);
        x.see(0, 1, 0);
        x.keep(1);
        x.feed(' ');
        x.sheet(0, 1, 7);
        x.sheet(1, 1, 8);
        x.set(0, 0, 1);
        x.free(0);
        int[] then = {2, 1, 1, 7, 12, 90};
        for (int w = 0; w < 6; w++) {
            due("count " + w, x.count(w), then[w]);
        }
        for (int w : new int[] {-1, 6, MIN, MAX}) {
            due("count " + w, x.count(w), BAD);
        }
    }
}
