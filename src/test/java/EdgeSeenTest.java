/** Edges of what was seen and of weeks by a seed, sentence by sentence: "Terms", section 2, and promises 27 to 33. */
public final class EdgeSeenTest {
    private static final int BAD = SeasonBound.BAD, STATE = SeasonBound.STATE;
    private static final int FULL = SeasonBound.FULL, NONE = SeasonBound.NONE;
    private static final int MIN = Integer.MIN_VALUE, MAX = Integer.MAX_VALUE;
    private static final String LONG_SPRING = "spring 9 1 99;summer 1 1 99;autumn 1 1 99;winter 1 1 99;";

    private final Check check = new Check();

    public static void main(String[] args) {
        EdgeSeenTest test = new EdgeSeenTest();
        test.sixAreSeen();
        test.seenBehindNone();
        test.seenBehindThirty();
        test.seenFromNowOn();
        test.forgetAllButTheFirst();
        test.kindsBitByBit();
        test.seasonsBitByBit();
        test.giftsBitByBit();
        test.allElseAsItIs();
        test.askWhenNobodyTells();
        test.askFewerThanNow();
        test.askOfSeveralTheLeast();
        test.askAtTheLatest();
        test.driftFromEndToEnd();
        test.driftOfNobody();
        test.driftPassesTheBoundsOfAnInt();
        test.check.finish("EdgeSeenTest");
    }

    /** "SEEN (6)"; promise 27, "how many are", "FULL". */
    private void sixAreSeen() {
        SeasonBound x = Check.told("plain 0 9;");
        for (int i = 1; i <= 6; i++) {
            check.due("seen", x.see(i, 0, i), i);
            check.due("count", x.count(0), i);
        }
        check.due("a seventh", x.see(0, 0, 0), FULL);
        check.due("bad ahead of full", x.see(31, 0, 0), BAD);
        check.due("no such child, ahead of full", x.see(0, 1, 0), BAD);
        check.due("no such skill, ahead of full", x.see(0, 0, 100), BAD);
        check.due("six are", x.count(0), 6);
        check.due("to ask is not to see", x.ask(0, 0), NONE);
        check.due("nobody to be seen", new SeasonBound().see(0, 0, 0), BAD);
    }

    /** "behind n WEEKS (0 to 30)", "k (0 to 99)". */
    private void seenBehindNone() {
        for (int skill : new int[] {0, 1, 98, 99}) {
            for (int k : new int[] {0, 1, 98, 99}) {
                SeasonBound x = Check.told("plain 0 9;");
                x.alter(0, 1, skill);
                check.due("seen", x.see(0, 0, k), 1);
                check.due("skill " + skill + ", seen " + k, x.kinds(0), skill == k ? 15 : 0);
                check.due("skill " + skill + ", seen " + k, x.seasons(0), skill == k ? 15 : 0);
                check.due("skill " + skill + ", seen " + k, x.gifts(0), skill == k ? 1023 : 0);
            }
        }
    }

    private void seenBehindThirty() {
        int[][] seen = {{30, 24}, {29, 23}, {30, 23}, {29, 24}, {30, 25}};
        int[] due = {2, 2, 0, 0, 0};
        for (int i = 0; i < seen.length; i++) {
            SeasonBound x = Check.told("plain 0 99;" + LONG_SPRING);
            x.see(seen[i][0], 0, seen[i][1]);
            check.due("behind " + seen[i][0] + " skill " + seen[i][1], x.gifts(0), due[i]);
        }
        SeasonBound x = Check.told("plain 0 99;" + LONG_SPRING);
        check.due("behind 31", x.see(31, 0, 24), BAD);
        check.due("is not seen", x.gifts(0), 1023);
    }

    private void seenFromNowOn() {
        SeasonBound x = Check.told("plain 0 99;" + LONG_SPRING);
        x.see(2, 0, 2);
        check.due("two weeks of one", x.gifts(0), 2);
        x.weeks(1);
        check.due("two weeks from now on give one by none alone", x.gifts(0), 0);
        x.alter(0, 1, 0);
        check.due("as it was", x.gifts(0), 2);
        x.alter(0, 1, 2);
        check.due("it has it, and learns nothing", x.gifts(0), 1);
    }

    /** Promise 28: "the first n alone: how many there were". */
    private void forgetAllButTheFirst() {
        SeasonBound x = Check.told("plain 0 9;" + LONG_SPRING);
        check.due("none of none", x.forget(0), 0);
        check.due("one of none", x.forget(1), BAD);
        for (int i = 1; i <= 6; i++) {
            x.see(i, 0, i <= 3 ? i : 99);
        }
        check.due("seven of six", x.forget(7), BAD);
        check.due("less than none", x.forget(-1), BAD);
        check.due("all of six", x.forget(6), 6);
        check.due("the fourth does not fit", x.kinds(0), 0);
        check.due("four of six", x.forget(4), 6);
        check.due("nor then", x.kinds(0), 0);
        check.due("five of four", x.forget(5), BAD);
        check.due("three of four", x.forget(3), 4);
        check.due("these fit", x.kinds(0), 0b0101);
        check.due("none of three", x.forget(0), 3);
        check.due("any", x.kinds(0), 15);
        for (int i = 1; i <= 6; i++) {
            check.due("room again", x.see(0, 0, 0), i);
        }
        check.due("but for six", x.see(0, 0, 0), FULL);
    }

    /** Promise 29: "KINDS of a CHILD (bits)". */
    private void kindsBitByBit() {
        int[] due = new int[12];
        due[5] = 1;
        due[10] = 2;
        due[3] = 4;
        due[4] = 8;
        for (int kind = 0; kind < 4; kind++) {
            for (int k = 0; k < due.length; k++) {
                SeasonBound x = Check.told("plain 0 9;spring 3 5 99;");
                x.alter(0, 0, kind);
                x.see(1, 0, k);
                check.due("seen " + k, x.kinds(0), due[k]);
                check.due("its kind stays", x.child(0, 0), kind);
            }
        }
        SeasonBound two = Check.told("slow 0 9;spring 3 2 99;");
        two.see(1, 0, 2);
        check.due("plain or orphan", two.kinds(0), 0b1001);
        SeasonBound free = Check.told("slow 9 1;");
        check.due("nothing seen of a free one", free.kinds(0), 15);
        free.see(30, 0, 0);
        check.due("it learns nothing, of any kind", free.kinds(0), 15);
        free.see(30, 0, 1);
        check.due("of none", free.kinds(0), 0);
        check.due("nobody", new SeasonBound().kinds(0), BAD);
    }

    /** Promise 30: "(bits; TERM as it is)", "STATE: it is FREE". */
    private void seasonsBitByBit() {
        for (int was = 0; was < 4; was++) {
            for (int s = 0; s < 4; s++) {
                SeasonBound x = Check.told("plain " + was + " 2;plain 9 1;spring 3 1 99;summer 3 2 99;autumn 3 3 99;winter 3 4 99;");
                check.due("nothing seen", x.seasons(0), 15);
                x.see(12, 0, 2 * (s + 1));
                check.due("two weeks of season " + s, x.seasons(0), 1 << s);
                check.due("its season stays", x.child(0, 1), was);
                x.see(12, 1, 1);
                check.due("the other does not fit", x.seasons(0), 0);
                check.due("and is free", x.seasons(1), STATE);
            }
        }
        SeasonBound x = Check.told("plain 0 2;");
        x.see(3, 0, 0);
        check.due("not spring", x.seasons(0), 0b1110);
        x.see(9, 0, 0);
        check.due("winter alone", x.seasons(0), 0b1000);
        check.due("nobody", new SeasonBound().seasons(0), BAD);
    }

    /** Promise 31: "GIFTS of a SEASON (bits 0 to 9)". */
    private void giftsBitByBit() {
        for (int s = 0; s < 4; s++) {
            int behind = 3 * s + 1;
            for (int k = 0; k <= 10; k++) {
                SeasonBound x = Check.told("plain " + s + " 9;");
                check.due("nothing seen", x.gifts(s), 1023);
                x.see(behind, 0, k);
                check.due("season " + s + ", seen " + k, x.gifts(s), k == 10 ? 0 : 1 << k);
                check.due("its gift stays", x.season(s, 1), 1);
                check.due("of the next none or any", x.gifts((s + 1) % 4), k == 1 ? 1023 : 0);
            }
        }
        SeasonBound most = Check.told("quick 0 9;spring 3 1 7;");
        most.see(1, 0, 7);
        check.due("up to most by any from four on", most.gifts(0), 0b1111110000);
        SeasonBound least = Check.told("orphan 0 9;spring 3 1 1;");
        least.see(1, 0, 1);
        check.due("by none, too", least.gifts(0), 1023);
        check.due("nobody", new SeasonBound().gifts(0), 1023);
    }

    /** "all else as it is, all is as SEEN". */
    private void allElseAsItIs() {
        SeasonBound x = Check.told("plain 0 9;quick 0 9;");
        x.see(1, 0, 1);
        x.see(1, 1, 2);
        check.due("both fit", x.gifts(0), 2);
        check.due("by its own", x.kinds(0), 0b0101);
        check.due("by its own", x.kinds(1), 0b1010);
        x.alter(1, 0, 0);
        check.due("the other does not fit", x.kinds(0), 0);
        check.due("this would", x.kinds(1), 0b1010);
        check.due("nor by any gift", x.gifts(0), 0);
        check.due("nor by any season", x.seasons(0), 0);
        check.due("nor by its own", x.seasons(1), 0);
    }

    /** Promise 32: "NONE: none". */
    private void askWhenNobodyTells() {
        String[] texts = {"", "plain 9 1;", "plain 1 9;", "plain 0 9;spring 3 1 0;"};
        for (String text : texts) {
            for (int what = 0; what < 2; what++) {
                check.due("'" + text + "'", Check.told(text).ask(0, what), NONE);
            }
        }
        SeasonBound learnt = Check.told("plain 0 9;spring 3 1 40;");
        learnt.alter(0, 1, 40);
        check.due("it has all of it", learnt.ask(0, 0), NONE);
        learnt.alter(0, 1, 41);
        check.due("or more", learnt.ask(0, 0), NONE);
        learnt.alter(0, 1, 39);
        check.due("or lacks one", learnt.ask(0, 0), 10);
    }

    /** "fewest are left at the worst, fewer than now". */
    private void askFewerThanNow() {
        SeasonBound x = Check.told("plain 0 9;spring 3 1 1;");
        check.due("none or some", x.ask(0, 0), 10);
        check.due("nine at the worst", x.ask(0, 1), 9);
        x.see(1, 0, 1);
        check.due("nine are left", x.gifts(0), 1022);
        check.due("no fewer", x.ask(0, 0), NONE);
        x.forget(0);
        x.see(1, 0, 0);
        check.due("one is left", x.gifts(0), 1);
        check.due("no fewer than that", x.ask(0, 1), NONE);
        SeasonBound two = Check.told("plain 0 9;slow 0 9;spring 3 3 5;");
        two.see(1, 1, 2);
        check.due("two are left", two.gifts(0), 0b11000);
        check.due("the plain one tells them apart", two.ask(0, 0), 10);
        check.due("one is left then", two.ask(0, 1), 1);
        two.free(0);
        check.due("the slow one does not", two.ask(0, 0), NONE);
        two.see(1, 1, 3);
        check.due("none is left", two.gifts(0), 0);
        check.due("nothing to ask", two.ask(0, 0), NONE);
    }

    /** "10 times the WEEKS and who, of several the least". */
    private void askOfSeveralTheLeast() {
        String[] texts = {"plain 0 9;quick 0 9;", "slow 0 9;quick 0 9;", "slow 0 9;orphan 0 9;", "plain 9 1;plain 1 9;plain 0 9;",
            "slow 0 9;slow 0 9;slow 0 9;slow 0 9;plain 0 1;"};
        int[] who = {10, 11, 10, 12, 14};
        int[] left = {1, 1, 2, 1, 1};
        for (int i = 0; i < texts.length; i++) {
            SeasonBound x = Check.told(texts[i]);
            check.due("who of '" + texts[i] + "'", x.ask(0, 0), who[i]);
            check.due("how many of '" + texts[i] + "'", x.ask(0, 1), left[i]);
        }
        SeasonBound x = Check.told("plain 3 9;");
        check.due("the first week of winter", x.ask(3, 0), 100);
        x.weeks(9);
        check.due("it is that", x.ask(3, 0), 10);
        x.weeks(1);
        check.due("it has learnt, and will", x.ask(3, 0), 10);
    }

    /** "Behind how many WEEKS (0 to 30)": no season is farther than three others of nine weeks. */
    private void askAtTheLatest() {
        SeasonBound x = Check.told("plain 9 1;plain 9 1;plain 9 1;plain 9 1;plain 3 1;spring 9 1 1;summer 9 1 1;autumn 9 1 1;");
        check.due("behind 28", x.ask(3, 0), 284);
        check.due("one is left", x.ask(3, 1), 1);
    }

    /** Each week of a drift made by bind() and weeks() on a twin, the seed being kept in a long. */
    private void drifts(String text, int seed, int n) {
        SeasonBound x = Check.told(text);
        SeasonBound twin = Check.told(text);
        int size = x.rule(0);
        long running = seed & 0xffffffffL;
        for (int i = 0; i < n; i++) {
            running = (running * 1103515245L + 12345L) & 0xffffffffL;
            int got = (int) (running >> 16) & 32767;
            int c = got % size;
            if (twin.child(c, 1) == NONE) {
                twin.bind(c, got / 8 % 4, 1 + got / 32 % 9);
            }
            twin.weeks(1);
        }
        int ages = 0;
        for (int c = 0; c < size; c++) {
            ages += twin.child(c, 4);
        }
        String told = "'" + text + "', seed " + seed + ", weeks " + n;
        check.due(told + ", skills", x.drift(seed, n, 0), twin.rule(5));
        check.due(told + ", ages", x.drift(seed, n, 1), ages);
        check.due(told + ", it stays", x.rule(1) + x.rule(5), 0);
    }

    /** Promise 33: "n WEEKS (1 to 60)". */
    private void driftFromEndToEnd() {
        String[] texts = {"plain 9 1;", "plain 9 1;quick 2 40;", "slow 9 1;orphan 9 1;quick 9 1;",
            "plain 9 1;plain 1 1;quick 9 1;slow 3 9;", "plain 9 1;quick 9 1;slow 9 1;orphan 9 1;plain 9 1;"};
        String seasons = "spring 2 4 30;summer 1 3 99;autumn 3 2 9;winter 1 9 50;";
        for (String text : texts) {
            for (int seed = 0; seed < 40; seed++) {
                drifts(text + seasons, seed * 77777777, seed % 2 == 0 ? 60 : seed + 1);
                drifts(text, seed, 1);
            }
            for (int n = 1; n <= 60; n++) {
                drifts(text, 7, n);
            }
        }
        SeasonBound x = Check.told("plain 9 1;");
        check.due("no week", x.drift(7, 0, 0), BAD);
        check.due("too many", x.drift(7, 61, 0), BAD);
    }

    /** "BAD; STATE: there are no CHILDREN". */
    private void driftOfNobody() {
        SeasonBound x = new SeasonBound();
        check.due("one week", x.drift(7, 1, 0), STATE);
        check.due("sixty", x.drift(7, 60, 1), STATE);
        check.due("bad ahead of it", x.drift(7, 0, 0), BAD);
        check.due("bad ahead of it", x.drift(7, 61, 0), BAD);
        check.due("bad ahead of it", x.drift(7, 1, 2), BAD);
        x.born(0);
        check.holds("one is enough", x.drift(7, 1, 0) >= 0);
    }

    /** Seeds at the ends of an int, whose product goes far beyond them from the first week on. */
    private void driftPassesTheBoundsOfAnInt() {
        for (int seed : new int[] {MIN, MIN + 1, MAX, MAX - 1, -1, 0, 1, 2, -2, 0x7fff0000, 0x80008000, 1 << 16, -(1 << 16)}) {
            for (int n : new int[] {1, 2, 3, 12, 59, 60}) {
                drifts("plain 9 1;quick 9 1;slow 9 1;", seed, n);
            }
        }
    }
}
