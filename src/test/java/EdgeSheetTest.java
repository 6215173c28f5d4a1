/** Edges of images and sheets, sentence by sentence: "Terms", section 2, and promises 34 to 40. */
public final class EdgeSheetTest {
    private static final int BAD = SeasonBound.BAD, STATE = SeasonBound.STATE, NONE = SeasonBound.NONE;
    private static final int MIN = Integer.MIN_VALUE, MAX = Integer.MAX_VALUE;
    private static final String FIVE = "plain 9 1;plain 9 1;plain 9 1;plain 9 1;plain 9 1;";

    private final Check check = new Check();

    public static void main(String[] args) {
        EdgeSheetTest test = new EdgeSheetTest();
        test.whetherThereWasOne();
        test.allIsAsTheImage();
        test.anImageIsNotUpset();
        test.moreOrFewerThanTheImage();
        test.imageOfTheLastWeek();
        test.whatAnImageDoesNotHold();
        test.sheetOfNothing();
        test.sheetOfNoCells();
        test.sheetOfForty();
        test.sheetBelowNone();
        test.newCellsAre0();
        test.sheetsApart();
        test.lowestBits();
        test.readAtTheLastCell();
        test.readFromAnywhere();
        test.readNoneAndThirteen();
        test.readAsOfAnotherLane();
        test.readRefusedInWhicheverWay();
        test.readRefusedAtEach();
        test.firstMetWhenRead();
        test.readAsByBind();
        test.tornOfTheLatest();
        test.countsFromEndToEnd();
        test.check.finish("EdgeSheetTest");
    }

    /** Promise 34: "whether there was one (1, 0)". */
    private void whetherThereWasOne() {
        for (int k = 0; k < 2; k++) {
            SeasonBound x = new SeasonBound();
            check.due("none", x.back(k), STATE);
            check.due("there was none", x.keep(k), 0);
            check.due("images", x.count(1), 1);
            check.due("there was one", x.keep(k), 1);
            check.due("images", x.count(1), 1);
            check.due("none of the other", x.back(1 - k), STATE);
            check.due("there was none of the other", x.keep(1 - k), 0);
            check.due("images", x.count(1), 2);
            x.weeks(2);
            check.due("the later one is kept", x.keep(k), 1);
            check.due("it is", x.back(k), 2);
            check.due("the other is the earlier", x.back(1 - k), 0);
            check.due("to go back leaves both", x.count(1), 2);
            x.text();
            check.due("a text leaves none", x.back(k), STATE);
            check.due("there was none then", x.keep(k), 0);
        }
    }

    private static void upset(SeasonBound x) {
        for (int c = 0; c < 5; c++) {
            x.free(c);
            x.alter(c, 0, 3 - c % 4);
            x.alter(c, 1, 70 + c);
            x.bind(c, c % 4, 33);
        }
        for (int s = 0; s < 4; s++) {
            x.set(s, 0, 9 - s);
            x.set(s, 1, 5 + s);
            x.set(s, 2, 90 + s);
        }
        x.weeks(17);
        x.forget(0);
        x.see(3, 0, 3);
    }

    /** Promises 34, 35: SEASONS, CHILDREN, which SEASON it is, LEFT, WEEK, what was SEEN. */
    private void allIsAsTheImage() {
        for (int k = 0; k < 2; k++) {
            SeasonBound kept = Scene.CROWD.build();
            kept.keep(k);
            SeasonBound x = Scene.CROWD.build();
            x.keep(k);
            upset(x);
            check.due("week", x.back(k), 2);
            String one = Snapshot.of(kept);
            String other = Snapshot.of(x);
            check.holds("all is as image " + k + ": " + Snapshot.difference(one, other), one.equals(other));
        }
    }

    private void anImageIsNotUpset() {
        SeasonBound kept = Scene.ORDINARY.build();
        SeasonBound x = Scene.ORDINARY.build();
        kept.back(1);
        for (int i = 0; i < 3; i++) {
            check.due("week", x.back(1), 4);
            upset(x);
        }
        x.back(1);
        String one = Snapshot.of(kept);
        String other = Snapshot.of(x);
        check.holds("what comes behind back() leaves it: " + Snapshot.difference(one, other), one.equals(other));
    }

    /** "CHILDREN (all of them)". */
    private void moreOrFewerThanTheImage() {
        SeasonBound x = new SeasonBound();
        x.keep(0);
        for (int c = 0; c < 5; c++) {
            x.born(c % 4);
            x.alter(c, 1, 10 + c);
            x.bind(c, 3 - c % 4, 20 + c);
        }
        x.keep(1);
        for (int i = 0; i < 2; i++) {
            check.due("back to nobody", x.back(0), 0);
            check.due("nobody", x.rule(0), 0);
            check.due("no first", x.child(0, 0), BAD);
            check.due("no skills", x.rule(5), 0);
            check.due("no ages", x.runs(9, 3), 0);
            check.due("nobody is free", x.runs(0, 1), 0);
            check.due("one that is born is new", x.born(2), 1);
            check.due("of its kind", x.child(0, 0), 2);
            check.due("free", x.child(0, 1), NONE);
            check.due("without a skill", x.child(0, 3), 0);
            check.due("back to all", x.back(1), 0);
            check.due("all", x.rule(0), 5);
            for (int c = 0; c < 5; c++) {
                check.due("kind", x.child(c, 0), c % 4);
                check.due("season", x.child(c, 1), 3 - c % 4);
                check.due("term", x.child(c, 2), 20 + c);
                check.due("skill", x.child(c, 3), 10 + c);
            }
        }
    }

    private void imageOfTheLastWeek() {
        SeasonBound x = Scene.LAST_WEEK.build();
        check.due("kept", x.keep(1), 0);
        x.keep(0);
        x.text();
        check.due("it is gone with a text", x.back(1), STATE);
        SeasonBound y = Scene.LAST_WEEK.build();
        y.keep(1);
        y.free(1);
        check.due("back to the last week", y.back(1), 999);
        check.due("its child is bound again", y.child(1, 2), 99);
        check.due("no week is left", y.weeks(1), SeasonBound.FULL);
        SeasonBound z = new SeasonBound();
        z.keep(0);
        z.weeks(30);
        check.due("back to the first", z.back(0), 0);
        check.due("weeks run again", z.weeks(30), 0);
    }

    private void whatAnImageDoesNotHold() {
        SeasonBound x = Check.told("plain 9 1;");
        x.keep(0);
        x.sheet(0, 1, 5);
        x.read(0, 0, 0, 1);
        Check.feed(x, "#");
        x.text();
        Check.feed(x, "slow 9 1;");
        x.back(0);
        check.due("the tape stays", x.count(2), 9);
        check.due("the fault stays", x.fault(), 1);
        check.due("the sheet stays", x.count(3), 5);
        check.due("what is torn stays", x.torn(), 3);
    }

    /** "or nothing (at first)": "1 NULL (nothing)". */
    private void sheetOfNothing() {
        SeasonBound x = Check.told(FIVE);
        check.due("no cells", x.count(3), NONE);
        for (int k = 0; k < 4; k++) {
            for (int i : new int[] {0, -1, 1, 39, 40, MIN, MAX}) {
                check.due("lay", x.lay(k, i, 0), -11);
                check.due("read", x.read(k, 1, i, 1), 0);
                check.due("torn", x.torn(), 1);
            }
        }
        check.due("all are free", x.runs(0, 1), 31);
    }

    /** "with 0 to 40 CELLS". */
    private void sheetOfNoCells() {
        for (int lane = 0; lane < 3; lane++) {
            SeasonBound x = Check.told(FIVE);
            check.due("made", x.sheet(0, lane, 0), 1);
            check.due("no cells, but not nothing", x.count(3), 0);
            for (int i : new int[] {0, -1, 1, 40, MIN, MAX}) {
                check.due("lay", x.lay(0, i, 0), -12);
                check.due("read", x.read(0, lane, i, 1), 0);
                check.due("torn", x.torn(), 2);
                check.due("as of another lane", x.read(0, (lane + 1) % 3, i, 1), 0);
                check.due("torn", x.torn(), 3);
            }
        }
    }

    /** Promise 36: "BAD: also n above 40". */
    private void sheetOfForty() {
        for (int lane = 0; lane < 3; lane++) {
            SeasonBound x = Check.told(FIVE);
            check.due("forty", x.sheet(0, lane, 40), 1);
            check.due("cells", x.count(3), 40);
            check.due("the first", x.lay(0, 0, 1), 1);
            check.due("the last", x.lay(0, 39, 1), 1);
            check.due("one behind it", x.lay(0, 40, 1), -12);
            check.due("one ahead of the first", x.lay(0, -1, 1), -12);
            check.due("forty-one", x.sheet(0, lane, 41), BAD);
            check.due("most of all", x.sheet(0, lane, MAX), BAD);
            check.due("the old one stays", x.count(3), 40);
            for (int n = 0; n <= 40; n++) {
                x.sheet(0, lane, n);
                check.due("cells", x.count(3), n);
                check.due("the last of " + n, x.lay(0, n - 1, 1), n == 0 ? -12 : 1);
                check.due("one behind " + n, x.lay(0, n, 1), -12);
            }
        }
    }

    /** "-10 - 4": "4 SIZE (below 0)". */
    private void sheetBelowNone() {
        SeasonBound x = new SeasonBound();
        check.due("one below", x.sheet(0, 2, -1), -14);
        check.due("least of all", x.sheet(0, 2, MIN), -14);
        check.due("nothing still", x.count(3), NONE);
        check.due("bad ahead of it: no such sheet", x.sheet(4, 2, -1), BAD);
        check.due("bad ahead of it: no such lane", x.sheet(0, 3, -1), BAD);
        x.sheet(0, 2, 6);
        check.due("below again", x.sheet(0, 1, -1), -14);
        check.due("the old one stays", x.count(3), 6);
        check.due("of its lane", x.read(0, 2, 6, 1), 0);
        check.due("which it is", x.torn(), 2);
    }

    /** "A SHEET is a new row of CELLS 0". */
    private void newCellsAre0() {
        for (int lane = 0; lane < 3; lane++) {
            SeasonBound x = Check.told("plain 9 1;plain 9 1;");
            for (int f = 0; f <= 37; f++) {
                x.sheet(lane, lane, 40);
                x.lay(lane, f, 1);
                x.lay(lane, f + 1, 1);
                x.lay(lane, f + 2, 1);
                x.sheet(lane, lane, 40);
                x.lay(lane, f + 2, 5);
                check.due("of child 0, to spring", x.read(lane, lane, f, 1), 1);
                check.due("child 0", x.child(0, 1), 0);
                check.due("for five", x.free(0), 5);
                x.lay(lane, f + 2, 0);
                check.due("for none", x.read(lane, lane, f, 1), -20);
            }
        }
    }

    private static void layRow(SeasonBound x, int k, int from, int... cells) {
        for (int i = 0; i < cells.length; i++) {
            x.lay(k, from + i, cells[i]);
        }
    }

    /** "SHEETS 0 to 3". */
    private void sheetsApart() {
        SeasonBound x = Check.told(FIVE);
        for (int k = 0; k < 4; k++) {
            x.sheet(k, k % 3, 3 + k);
            layRow(x, k, 0, k, k, 10 + k);
        }
        for (int k = 0; k < 4; k++) {
            check.due("of sheet " + k, x.read(k, k % 3, 0, 1), 1);
            check.due("season", x.child(k, 1), k);
            check.due("term", x.child(k, 2), 10 + k);
            check.due("one behind its last", x.lay(k, 3 + k, 1), -12);
        }
        check.due("sheet 0 is counted", x.count(3), 3);
    }

    /** Promise 37: "CELL i of a SHEET becomes v (its lowest bits)". */
    private void lowestBits() {
        int[][] bytes = {{1, 1}, {99, 99}, {100, 0}, {127, 0}, {128, 0}, {129, 0}, {255, 0}, {256, 0}, {257, 1}, {355, 99}, {356, 0},
            {65537, 1}, {-1, 0}, {-128, 0}, {-129, 0}, {-157, 99}, {-156, 0}, {-255, 1}, {-256, 0}, {MIN, 0}, {MIN + 1, 1}, {MAX, 0}, {MAX - 255, 0}};
        int[][] shorts = {{1, 1}, {99, 99}, {100, 0}, {257, 0}, {32767, 0}, {32768, 0}, {65535, 0}, {65536, 0}, {65537, 1}, {65635, 99},
            {65636, 0}, {-1, 0}, {-255, 0}, {-65437, 99}, {-65436, 0}, {-65535, 1}, {-65536, 0}, {MIN, 0}, {MIN + 1, 1}, {MAX, 0}};
        int[][] ints = {{1, 1}, {99, 99}, {100, 0}, {257, 0}, {65537, 0}, {-1, 0}, {-255, 0}, {-65535, 0}, {MIN, 0}, {MIN + 1, 0}, {MAX, 0}};
        bitsOf(0, bytes);
        bitsOf(1, shorts);
        bitsOf(2, ints);
        SeasonBound x = Check.told(FIVE);
        x.sheet(0, 0, 3);
        layRow(x, 0, 0, 256 + 4, -256 + 3, 512 + 2);
        check.due("of all three", x.read(0, 0, 0, 1), 1);
        check.due("child 4 is winter's", x.child(4, 1), 3);
        check.due("for two", x.child(4, 2), 2);
    }

    /** Each number laid as a TERM, and the TERM that comes of it; 0 where it is none. */
    private void bitsOf(int lane, int[][] laid) {
        SeasonBound x = Check.told("plain 9 1;");
        x.sheet(1, lane, 3);
        for (int[] v : laid) {
            check.due("lane " + lane + ", lay " + v[0], x.lay(1, 2, v[0]), 1);
            check.due("lane " + lane + ", read " + v[0], x.read(1, lane, 0, 1), v[1] == 0 ? -20 : 1);
            check.due("lane " + lane + ", term by " + v[0], x.child(0, 2), v[1]);
            x.free(0);
        }
    }

    private static SeasonBound withRows(int lane, int cells, int from, int rows) {
        SeasonBound x = Check.told(FIVE);
        x.sheet(0, lane, cells);
        for (int c = 0; c < rows; c++) {
            layRow(x, 0, from + 3 * c, c, c % 4, 90 + c);
        }
        return x;
    }

    /** Promise 38: "three CELLS each from CELL f on": "those that were whole ahead came". */
    private void readAtTheLastCell() {
        for (int lane = 0; lane < 3; lane++) {
            SeasonBound whole = withRows(lane, 40, 25, 5);
            check.due("five, up to the last cell", whole.read(0, lane, 25, 5), 5);
            check.due("nothing is torn", whole.torn(), 0);
            for (int c = 0; c < 5; c++) {
                check.due("term", whole.child(c, 2), 90 + c);
            }
            SeasonBound behind = withRows(lane, 40, 25, 5);
            check.due("a sixth is behind it", behind.read(0, lane, 25, 6), 5);
            check.due("torn", behind.torn(), 2);
            check.due("five are bound", behind.count(5), 90 + 91 + 92 + 93 + 94);
            SeasonBound half = withRows(lane, 40, 26, 5);
            check.due("the fifth lacks a cell", half.read(0, lane, 26, 5), 4);
            check.due("torn", half.torn(), 2);
            check.due("it is free", half.child(4, 1), NONE);
            check.due("the fourth is not", half.child(3, 2), 93);
            SeasonBound less = withRows(lane, 40, 27, 5);
            check.due("the fifth lacks two", less.read(0, lane, 27, 5), 4);
            check.due("torn", less.torn(), 2);
        }
    }

    private void readFromAnywhere() {
        for (int cells = 0; cells <= 8; cells++) {
            for (int f = -4; f <= 9; f++) {
                SeasonBound x = withRows(1, cells, f, 2);
                int fit = f < 0 ? 0 : Math.max(0, (cells - f) / 3);
                int came = Math.min(2, fit);
                check.due(cells + " cells from " + f, x.read(0, 1, f, 2), came);
                check.due(cells + " cells from " + f + ", torn", x.torn(), came < 2 ? 2 : 0);
                check.due(cells + " cells from " + f + ", bound", Integer.bitCount(31 - x.runs(0, 1)), came);
            }
        }
        for (int f : new int[] {MIN, MIN + 1, MIN + 3, -3, -1, 38, 39, 40, 41, MAX - 36, MAX - 3, MAX - 2, MAX - 1, MAX}) {
            SeasonBound x = withRows(2, 40, 0, 5);
            check.due("from " + f, x.read(0, 2, f, 13), 0);
            check.due("from " + f + ", torn", x.torn(), 2);
            check.due("from " + f + ", all are free", x.runs(0, 1), 31);
        }
        SeasonBound last = withRows(2, 40, 37, 1);
        check.due("from 37", last.read(0, 2, 37, 1), 1);
        check.due("from 37, torn", last.torn(), 0);
    }

    /** "n (0 to 13) times". */
    private void readNoneAndThirteen() {
        SeasonBound x = withRows(0, 15, 0, 5);
        check.due("none", x.read(0, 0, 0, 0), 0);
        check.due("nothing is torn", x.torn(), 0);
        check.due("nobody is bound", x.count(5), 0);
        check.due("fourteen", x.read(0, 0, 0, 14), BAD);
        check.due("less than none", x.read(0, 0, 0, -1), BAD);
        check.due("thirteen, of which five are there", x.read(0, 0, 0, 13), 5);
        check.due("torn", x.torn(), 2);
        SeasonBound full = withRows(0, 40, 0, 5);
        check.due("thirteen, of which all are there", full.read(0, 0, 0, 13), -25);
        check.due("none came", full.count(5), 0);
    }

    /** "3 CAST (another lane)". */
    private void readAsOfAnotherLane() {
        for (int lane = 0; lane < 3; lane++) {
            for (int as = 0; as < 3; as++) {
                SeasonBound x = withRows(lane, 15, 0, 5);
                check.due("lane " + lane + " as of " + as, x.read(0, as, 0, 5), lane == as ? 5 : 0);
                check.due("lane " + lane + " as of " + as + ", torn", x.torn(), lane == as ? 0 : 3);
                check.due("lane " + lane + " as of " + as + ", free", x.runs(0, 1), lane == as ? 0 : 31);
                x.read(0, as, MAX, 1);
                check.due("another lane is found ahead of the cell", x.torn(), lane == as ? 2 : 3);
                x.sheet(0, as, 3);
                x.read(0, as, 1, 1);
                check.due("made anew it is of that lane", x.torn(), 2);
            }
        }
    }

    /** "-20 less i: the i-th, whole, is refused by bind() (in whichever way): then none came". */
    private void readRefusedInWhicheverWay() {
        int[][] refused = {{-1, 0, 1}, {5, 0, 1}, {1, -1, 1}, {1, 4, 1}, {1, 0, 0}, {1, 0, -1}, {1, 0, 100}, {0, 0, 1}, {4, 0, 1}, {4, 3, 100}};
        for (int[] row : refused) {
            SeasonBound x = Check.told("plain 9 1;plain 9 1;plain 9 1;plain 9 1;plain 2 7;");
            x.sheet(0, 2, 9);
            layRow(x, 0, 0, 0, 3, 9);
            layRow(x, 0, 3, row);
            layRow(x, 0, 6, 2, 3, 9);
            check.due("the second", x.read(0, 2, 0, 3), -21);
            check.due("the first did not come", x.child(0, 1), NONE);
            check.due("nor the third", x.child(2, 1), NONE);
            check.due("what was stays", x.count(5), 7);
            check.due("the first alone", x.read(0, 2, 0, 1), 1);
            check.due("the third alone", x.read(0, 2, 6, 1), 1);
            check.due("both are bound", x.season(3, 3), 0b00101);
        }
    }

    private void readRefusedAtEach() {
        for (int i = 0; i <= 5; i++) {
            SeasonBound x = withRows(1, 18, 0, 5);
            x.lay(0, 3 * i, 77);
            check.due("the one at " + i, x.read(0, 1, 0, 6), -20 - i);
            check.due("none came", x.runs(0, 1), 31);
            check.due("those ahead of it", x.read(0, 1, 0, i), i);
        }
    }

    /** "the first met". */
    private void firstMetWhenRead() {
        SeasonBound x = withRows(0, 8, 0, 2);
        check.due("two are whole, the third is not", x.read(0, 0, 0, 13), 2);
        check.due("torn", x.torn(), 2);
        x.free(0);
        x.free(1);
        x.lay(0, 3, 9);
        x.lay(0, 0, 9);
        check.due("two are refused: the first", x.read(0, 0, 0, 13), -20);
        x.lay(0, 0, 0);
        check.due("the second is refused ahead of what is torn", x.read(0, 0, 0, 13), -21);
        check.due("none came", x.child(0, 1), NONE);
        check.due("a refused one that is not whole", x.read(0, 0, 6, 1), 0);
        check.due("is torn", x.torn(), 2);
        check.due("as of another lane none is met that bind() would refuse", x.read(0, 1, 0, 13), 0);
        check.due("torn", x.torn(), 3);
    }

    /** "one behind another as by bind()". */
    private void readAsByBind() {
        SeasonBound x = Check.told("plain 9 1;plain 9 1;");
        x.sheet(2, 2, 6);
        layRow(x, 2, 0, 1, 3, 99, 1, 3, 99);
        check.due("the same twice: the second is bound by then", x.read(2, 2, 0, 2), -21);
        check.due("once", x.read(2, 2, 0, 1), 1);
        check.due("child 1 is winter's", x.season(3, 3), 2);
        check.due("for 99", x.free(1), 99);
        layRow(x, 2, 0, 0, 0, 1);
        check.due("the other way round", x.read(2, 2, 0, 2), 2);
        check.due("spring's", x.season(0, 3), 1);
        check.due("the cells stay", x.read(2, 2, 0, 2), -20);
        x.free(0);
        x.free(1);
        check.due("and are read again", x.read(2, 2, 0, 2), 2);
    }

    /** Promise 39: "The FAULT of the latest read() that came to an end; 0." */
    private void tornOfTheLatest() {
        SeasonBound x = withRows(1, 6, 0, 2);
        check.due("none was read", x.torn(), 0);
        int[][] reads = {{1, 0, 0, 1, 1}, {0, 1, 6, 1, 2}, {0, 2, 0, 1, 3}};
        for (int[] r : reads) {
            x.read(r[0], r[1], r[2], r[3]);
            check.due("torn", x.torn(), r[4]);
            check.due("bad", x.read(0, 1, 0, 14), BAD);
            check.due("bad", x.read(4, 1, 0, 1), BAD);
            check.due("it stays", x.torn(), r[4]);
            check.due("refused", x.read(0, 1, 1, 1), -20);
            check.due("it stays", x.torn(), r[4]);
            x.lay(3, 0, 0);
            x.sheet(3, 0, -1);
            x.weeks(1);
            check.due("neither lay() nor sheet() tears", x.torn(), r[4]);
        }
        check.due("two came to an end", x.read(0, 1, 0, 2), 2);
        check.due("whole", x.torn(), 0);
        x.read(0, 1, 99, 1);
        x.text();
        check.due("a text leaves it", x.torn(), 2);
    }

    /** Promise 40, each count at its least and its most. */
    private void countsFromEndToEnd() {
        SeasonBound x = Check.told("plain 0 99;plain 1 99;plain 2 99;plain 3 99;plain 3 99;");
        check.due("terms", x.count(5), 495);
        int[] least = {0, 0, 0, NONE, 12, 0};
        int[] most = {6, 2, 160, 40, 36, 495};
        SeasonBound none = new SeasonBound();
        for (int i = 0; i < 6; i++) {
            x.see(0, 0, 0);
        }
        x.keep(0);
        x.keep(1);
        Check.feed(x, " ".repeat(161));
        x.sheet(0, 0, 40);
        for (int s = 0; s < 4; s++) {
            x.set(s, 0, 9);
        }
        for (int what = 0; what < 6; what++) {
            check.due("least, " + what, none.count(what), least[what]);
            check.due("most, " + what, x.count(what), most[what]);
        }
        for (int s = 0; s < 4; s++) {
            x.set(s, 0, 1);
        }
        check.due("the shortest year", x.count(4), 4);
        for (int k = 1; k < 4; k++) {
            x.sheet(k, 0, 7);
        }
        check.due("sheet 0 alone is counted", x.count(3), 40);
        check.due("below", x.count(-1), BAD);
        check.due("above", x.count(6), BAD);
    }
}
