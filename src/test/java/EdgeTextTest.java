/** Edges of the tape and its text, sentence by sentence: "Terms", section 1, and promises 1 to 5. */
public final class EdgeTextTest {
    private static final int BAD = SeasonBound.BAD, STATE = SeasonBound.STATE;
    private static final int FULL = SeasonBound.FULL, NONE = SeasonBound.NONE;
    private static final String[] SEASONS = {"spring", "summer", "autumn", "winter"};
    private static final String[] KINDS = {"plain", "quick", "slow", "orphan"};
    private static final String FIVE = "slow 9 1;slow 9 1;slow 9 1;slow 9 1;slow 9 1;";

    private final Check check = new Check();

    public static void main(String[] args) {
        EdgeTextTest test = new EdgeTextTest();
        test.atFirst();
        test.tapeOf160();
        test.endOfTheTape();
        test.everyByteAlone();
        test.everyByteBehindAName();
        test.everyByteBehindANumber();
        test.namesAreWhole();
        test.figures();
        test.boundsOfASeason();
        test.boundsOfAChild();
        test.cutAnywhere();
        test.lastPlaces();
        test.oneTokenAsLongAsTheTape();
        test.firstFaultMet();
        test.seasonTwice();
        test.sixthChild();
        test.mostLines();
        test.aFreeOneHasNoTerm();
        test.tellsAll();
        test.faultOfTheLatest();
        test.check.finish("EdgeTextTest");
    }

    private void taken(String text, int lines) {
        SeasonBound x = new SeasonBound();
        Check.feed(x, text);
        check.due("text '" + text + "'", x.text(), lines);
        check.due("fault of '" + text + "'", x.fault(), 0);
    }

    private void faulty(String text, int place, int fault) {
        SeasonBound x = new SeasonBound();
        Check.feed(x, text);
        check.due("text '" + text + "'", x.text(), -10 - place);
        check.due("fault of '" + text + "'", x.fault(), fault);
        check.due("tape behind '" + text + "'", x.count(2), 0);
    }

    private static String blanks(int n) {
        return " ".repeat(n);
    }

    /** Promise 1; "3 at first", "1 at first", "99 at first", "spring at first", "its LENGTH at first", "0 at first". */
    private void atFirst() {
        SeasonBound x = new SeasonBound();
        int[] rules = {0, 0, 0, 3, 0, 0};
        for (int what = 0; what < 6; what++) {
            check.due("at first, rule " + what, x.rule(what), rules[what]);
        }
        int[] season = {3, 1, 99, 0};
        for (int s = 0; s < 4; s++) {
            for (int what = 0; what < 4; what++) {
                check.due("at first, season " + s + " " + what, x.season(s, what), season[what]);
            }
        }
        int[] counts = {0, 0, 0, NONE, 12, 0};
        for (int what = 0; what < 6; what++) {
            check.due("at first, count " + what, x.count(what), counts[what]);
        }
        check.due("at first no fault", x.fault(), 0);
        check.due("at first nothing torn", x.torn(), 0);
        for (int k = 0; k < 4; k++) {
            check.due("sheet of nothing", x.lay(k, 0, 0), -11);
            for (int lane = 0; lane < 3; lane++) {
                check.due("read of nothing", x.read(k, lane, 0, 1), 0);
                check.due("torn of nothing", x.torn(), 1);
            }
        }
        check.due("no child", x.child(0, 0), BAD);
        check.due("a child is 0 at first", x.born(2), 1);
        check.due("its skill", x.child(0, 3), 0);
        check.due("its age", x.child(0, 4), 0);
    }

    /** "THE TAPE has 160 bytes"; promise 2, "FULL: more than 160". */
    private void tapeOf160() {
        SeasonBound x = new SeasonBound();
        for (int i = 1; i <= 160; i++) {
            check.due("byte " + i, x.feed(i == 160 ? ';' : i > 151 ? "slow 9 1".charAt(i - 152) : ' '), i);
        }
        check.due("byte 161", x.feed(' '), FULL);
        check.due("still 160", x.count(2), 160);
        check.due("all of them are read, the last too", x.text(), 1);
        check.due("empty again", x.count(2), 0);
        check.due("the first again", x.feed(0), 1);
    }

    /** Promise 3: nothing is kept, all is kept, not one more than there is. */
    private void endOfTheTape() {
        SeasonBound x = new SeasonBound();
        check.due("nothing of nothing", x.end(0), 0);
        check.due("one of nothing", x.end(1), BAD);
        Check.feed(x, blanks(160));
        check.due("more than a tape has", x.end(161), BAD);
        check.due("all of a full one", x.end(160), 160);
        check.due("all but one", x.end(159), 160);
        check.due("160 of 159", x.end(160), BAD);
        check.due("below", x.end(-1), BAD);
        check.due("refused, it stays", x.count(2), 159);
        check.due("nothing of it", x.end(0), 159);
        check.due("empty", x.count(2), 0);
        Check.feed(x, "slow 9 1;;");
        check.due("its first bytes", x.end(9), 10);
        check.due("are read", x.text(), 1);
    }

    private static boolean isLetter(int b) {
        return b >= 97 && b <= 122;
    }

    private static boolean isFigure(int b) {
        return b >= 48 && b <= 57;
    }

    /** "NAMES (a .. z), NUMBERS (1 or 2 figures), one ;", "blanks (32) between", "1 no TOKEN". */
    private void everyByteAlone() {
        for (int b = 0; b < 128; b++) {
            String text = String.valueOf((char) b);
            if (b == 32) {
                taken(text, 0);
            } else {
                faulty(text, 0, isLetter(b) || isFigure(b) || b == 59 ? 2 : 1);
            }
        }
    }

    private void everyByteBehindAName() {
        for (int b = 0; b < 128; b++) {
            String text = "plain" + (char) b + "9 1;";
            if (b == 32 || b == '0') {
                taken(text, 1);
            } else if (isLetter(b)) {
                faulty(text, 0, 2);
            } else {
                faulty(text, 5, isFigure(b) ? 3 : b == ';' ? 2 : 1);
            }
        }
    }

    private void everyByteBehindANumber() {
        for (int b = 0; b < 128; b++) {
            String text = "plain 9 1" + (char) b + ";";
            if (b == 32 || isFigure(b)) {
                taken(text, 1);
            } else if (b == ';') {
                faulty(text, 10, 2);
            } else {
                faulty(text, 9, isLetter(b) ? 2 : 1);
            }
        }
    }

    /** "each as long as may be", "a NAME that begins no line". */
    private void namesAreWhole() {
        for (String name : SEASONS) {
            namedWhole(name, " 1 1 1;");
        }
        for (String name : KINDS) {
            namedWhole(name, " 1 1;");
        }
    }

    private void namedWhole(String name, String rest) {
        taken(name + rest, 1);
        taken(name + rest.substring(1), 1);
        faulty(name.substring(0, name.length() - 1) + rest, 0, 2);
        faulty(name.substring(1) + rest, 0, 2);
        faulty(name + "s" + rest, 0, 2);
        faulty(name + name + rest, 0, 2);
        faulty(name.substring(0, 2) + " " + name.substring(2) + rest, 0, 2);
        for (int i = 0; i < name.length(); i++) {
            faulty(name.substring(0, i) + "z" + name.substring(i + 1) + rest, 0, 2);
        }
    }

    /** "a NUMBER that is too long (its first byte)", wherever it stands. */
    private void figures() {
        for (String tooLong : new String[] {"000", "001", "100", "999", "1234567890123"}) {
            faulty(tooLong, 0, 1);
            faulty("spring " + tooLong + " 1 1;", 7, 1);
            faulty("spring 1 " + tooLong + " 1;", 9, 1);
            faulty("spring 1 1 " + tooLong + ";", 11, 1);
            faulty("spring 1 1 1 " + tooLong + ";", 13, 1);
            faulty("slow " + tooLong + " 1;", 5, 1);
            faulty("slow 9 " + tooLong + ";", 7, 1);
            faulty("slow 9 1" + tooLong.substring(1) + "0;", 7, 1);
        }
        taken("spring 01 00 09;slow 03 01;", 2);
        faulty("spring 1 1;", 10, 2);
        faulty("slow 91;", 5, 3);
    }

    private static String[] shapes(int v) {
        return v > 9 ? new String[] {"" + v} : new String[] {"" + v, "0" + v};
    }

    /** "LENGTH (1 to 9 weeks)", "GIFT (0 to 9)", "MOST (0 to 99)"; "3 a NUMBER out of its bounds". */
    private void boundsOfASeason() {
        for (int s = 0; s < 4; s++) {
            for (int v = 0; v < 100; v++) {
                for (String number : shapes(v)) {
                    seasonNumber(s, 0, SEASONS[s] + " " + number + " 2 33;", v >= 1 && v <= 9, 7, v);
                    seasonNumber(s, 1, SEASONS[s] + " 4 " + number + " 33;", v <= 9, 9, v);
                    seasonNumber(s, 2, SEASONS[s] + " 4 2 " + number + ";", true, 11, v);
                }
            }
        }
    }

    private void seasonNumber(int s, int what, String text, boolean fits, int place, int v) {
        if (!fits) {
            faulty(text, place, 3);
            return;
        }
        int[] due = {4, 2, 33};
        due[what] = v;
        SeasonBound x = Check.told(text);
        for (int w = 0; w < 3; w++) {
            check.due("'" + text + "', " + w, x.season(s, w), due[w]);
        }
        check.due("'" + text + "', left", x.rule(3), s == 0 ? due[0] : 3);
    }

    /** "the SEASON to which it is BOUND (0 to 3; 9: FREE), TERM (1 to 99)", "4 to 8, where a SEASON is told, too". */
    private void boundsOfAChild() {
        for (int kind = 0; kind < 4; kind++) {
            String name = KINDS[kind];
            for (int v = 0; v < 100; v++) {
                for (String number : shapes(v)) {
                    String bySeason = name + " " + number + " 7;";
                    String byTerm = name + " 2 " + number + ";";
                    if (v <= 3 || v == 9) {
                        childTold(bySeason, kind, v == 9 ? NONE : v, v == 9 ? 0 : 7);
                    } else {
                        faulty(bySeason, name.length() + 1, 3);
                    }
                    if (v >= 1) {
                        childTold(byTerm, kind, 2, v);
                    } else {
                        faulty(byTerm, name.length() + 3, 3);
                    }
                }
            }
        }
    }

    private void childTold(String text, int kind, int season, int term) {
        SeasonBound x = Check.told(text);
        check.due("'" + text + "', kind", x.child(0, 0), kind);
        check.due("'" + text + "', season", x.child(0, 1), season);
        check.due("'" + text + "', term", x.child(0, 2), term);
    }

    /** "or the end: the length": a text that ends behind any of its bytes, the tape's other bytes being gone. */
    private void cutAnywhere() {
        String text = "spring 1 2 33;slow 0 44;";
        for (int i = 0; i <= text.length(); i++) {
            SeasonBound x = new SeasonBound();
            Check.feed(x, text);
            x.end(i);
            boolean inSpring = i > 0 && i < 6;
            boolean inSlow = i > 14 && i < 18;
            int due = i == 0 ? 0 : i == 14 ? 1 : i == 24 ? 2 : inSpring ? -10 : inSlow ? -24 : -10 - i;
            check.due("the first " + i + " bytes", x.text(), due);
            check.due("the first " + i + " bytes, fault", x.fault(), due < 0 ? 2 : 0);
        }
        SeasonBound x = new SeasonBound();
        Check.feed(x, "slow 0 44;");
        x.end(8);
        check.due("a number is cut", x.feed(';'), 9);
        check.due("what is left of it", x.text(), 1);
        check.due("is the term", x.child(0, 2), 4);
        faulty("slow 0 4   ", 11, 2);
        faulty("slow  ", 6, 2);
    }

    /** "places from 0": each FAULT as near to the tape's end as it can be. */
    private void lastPlaces() {
        taken(blanks(160), 0);
        taken(blanks(151) + "slow 9 1;", 1);
        faulty(blanks(159) + "#", 159, 1);
        faulty(blanks(157) + "100", 157, 1);
        faulty(blanks(159) + ";", 159, 2);
        faulty(blanks(159) + "1", 159, 2);
        faulty(blanks(156) + "slow", 160, 2);
        faulty(blanks(152) + "slow 9 1", 160, 2);
        faulty("slow" + blanks(156), 160, 2);
        faulty(blanks(152) + "slow 9 0", 159, 3);
        faulty("summer 1 1 1;" + blanks(141) + "summer", 154, 4);
        faulty(FIVE + blanks(111) + "slow", 156, 5);
    }

    private void oneTokenAsLongAsTheTape() {
        faulty("a".repeat(160), 0, 2);
        faulty("1".repeat(160), 0, 1);
        faulty(";".repeat(160), 0, 2);
        faulty("slow " + "9".repeat(155), 5, 1);
        faulty("slow " + "a".repeat(155), 5, 2);
    }

    /** "the first met as it is read (a TOKEN is read when the one before has been taken)". */
    private void firstFaultMet() {
        faulty("spring 0#", 7, 3);
        faulty("spring 10 10 100;", 7, 3);
        faulty("spring 1 10#", 9, 3);
        faulty("spring 1 1 ;#", 11, 2);
        faulty("spring 1 1 x 100;", 11, 2);
        faulty("spring 1 1 100 #", 11, 1);
        faulty("spring 1 1 1 x#", 13, 2);
        faulty("spring ; 0;", 7, 2);
        faulty("slow 4 0;", 5, 3);
        faulty("slow 4#", 5, 3);
        faulty("slow 9 0#", 7, 3);
        faulty("slow 9 0 x", 7, 3);
        faulty("slow 9 x 100", 7, 2);
        faulty("slow 9 100 x", 7, 1);
        faulty("slow 100 x", 5, 1);
        faulty("slow x 100", 5, 2);
        faulty("slow 9 1 x 100", 9, 2);
        faulty("x#", 0, 2);
        faulty("x 100", 0, 2);
        faulty("#x", 0, 1);
        faulty("slow 9 1;x 4", 9, 2);
        faulty("slow 9 1;spring 1 1 1;spring 0 0 0;", 22, 4);
        faulty("spring 1 1 1;spring #", 13, 4);
        faulty("spring 1 1 1;spring 0", 13, 4);
        faulty("spring 1 1 1;spring", 13, 4);
        faulty("spring 0 1 1;spring", 7, 3);
        faulty("spring 1 1 1;springs", 13, 2);
        faulty(FIVE + "slow #", 45, 5);
        faulty(FIVE + "slow 4", 45, 5);
        faulty(FIVE + "slow", 45, 5);
        faulty(FIVE + "slows", 45, 2);
        faulty(FIVE + "#slow", 45, 1);
    }

    /** "4 a SEASON for the second time (its NAME)". */
    private void seasonTwice() {
        StringBuilder all = new StringBuilder();
        for (String name : SEASONS) {
            all.append(name).append(" 1 1 1;");
        }
        taken(all.toString(), 4);
        for (String name : SEASONS) {
            faulty(all + name, 52, 4);
            faulty(name + " 9 9 99;slow 9 1;" + name + " 9 9 99;", 23, 4);
            faulty(name + " 9 9 99; " + name, 15, 4);
        }
    }

    /** "5 at most, by order", "5 the 6th CHILD (its NAME)". */
    private void sixthChild() {
        taken(FIVE, 5);
        taken(FIVE + "winter 1 1 1;", 6);
        for (String name : KINDS) {
            faulty(FIVE + name, 45, 5);
            faulty(FIVE + "winter 1 1 1;  " + name + " 9 1;", 60, 5);
        }
    }

    private void mostLines() {
        SeasonBound x = Check.told("slow 9 1;winter 1 1 1;orphan 0 2;quick 1 3;autumn 2 2 2;plain 2 4;summer 3 3 3;slow 3 5;spring 4 4 4;");
        check.due("the fifth, by order", x.child(4, 2), 5);
        check.due("there is no sixth", x.child(5, 0), BAD);
        int[] kinds = {2, 3, 1, 0, 2};
        int[] seasons = {NONE, 0, 1, 2, 3};
        for (int c = 0; c < 5; c++) {
            check.due("kind of " + c, x.child(c, 0), kinds[c]);
            check.due("season of " + c, x.child(c, 1), seasons[c]);
            check.due("length", x.season(c % 4, 0), 4 - c % 4);
        }
        taken("slow9 1;winter1 1 1;orphan0 2;quick1 3;autumn2 2 2;plain2 4;summer3 3 3;slow3 5;spring4 4 4;", 9);
        taken("", 0);
        taken("slow 9 1;", 1);
    }

    /** "one that is FREE has none, whatever is told". */
    private void aFreeOneHasNoTerm() {
        for (String term : new String[] {"1", "2", "12", "99"}) {
            SeasonBound x = Check.told("slow 9 " + term + ";");
            check.due("free", x.child(0, 1), NONE);
            check.due("no term", x.child(0, 2), 0);
            check.due("no terms", x.count(5), 0);
            check.due("lives", x.rule(4), 1);
            check.due("bound to none", x.season(0, 3), 0);
        }
    }

    /** "A text that is taken tells all, in place of what there was; nothing is SEEN; IMAGES are gone." */
    private void tellsAll() {
        String[] texts = {"", "slow 9 1;", "plain 3 9;", "spring 9 9 9;", FIVE + "autumn 1 0 0;"};
        for (Scene scene : new Scene[] {Scene.CROWD, Scene.FULL_TAPE}) {
            for (String text : texts) {
                SeasonBound x = scene.build();
                x.end(0);
                // A text that was refused, and what was asked, leave nothing to this one either.
                Check.feed(x, "autumn 9 9 9;spring 9 9 9;slow 3 9;#");
                x.text();
                x.runs(37, 0);
                Check.feed(x, text);
                x.text();
                check.due("nothing is seen", x.count(0), 0);
                check.due("images are gone", x.count(1), 0);
                check.due("the first", x.back(0), STATE);
                check.due("the second", x.back(1), STATE);
                check.holds(scene + ", then '" + text + "', is as '" + text + "' alone",
                    Snapshot.of(x).equals(Snapshot.of(Check.told(text))));
            }
        }
    }

    /** Promise 5: "The FAULT of the latest text(); 0." */
    private void faultOfTheLatest() {
        SeasonBound x = new SeasonBound();
        String[] texts = {"#", "x", "slow 4", "spring 1 1 1;spring", FIVE + "slow"};
        for (int i = 0; i < texts.length; i++) {
            Check.feed(x, texts[i]);
            check.due("not read yet", x.fault(), i == 0 ? 0 : i);
            x.text();
            check.due("read", x.fault(), i + 1);
            x.end(0);
            x.born(0);
            x.keep(0);
            x.back(0);
            check.due("it stays", x.fault(), i + 1);
        }
        check.due("an empty one", x.text(), 0);
        check.due("has none", x.fault(), 0);
    }
}
