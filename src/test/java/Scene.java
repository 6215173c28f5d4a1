/** Objects as they may be met: each is built anew, so that a call on one can be told from no call on its twin. */
enum Scene {
    /** Nothing was called. */
    NEW {
        @Override
        SeasonBound build() {
            return new SeasonBound();
        }
    },
    /** Some children bound, some free, something seen, one image, sheets of each kind, a tape begun. */
    ORDINARY {
        @Override
        SeasonBound build() {
            SeasonBound x = Check.told("plain 0 9;quick 9 1;slow 2 5;autumn 2 4 50;");
            x.weeks(4);
            x.see(10, 0, 5);
            x.keep(1);
            x.see(4, 2, 4);
            x.weeks(1);
            layTwoBindings(x, 0, 0);
            layTwoBindings(x, 1, 1);
            x.sheet(3, 2, 0);
            x.read(0, 1, 0, 1);
            Check.feed(x, "plain 5");
            x.text();
            Check.feed(x, "orphan 1 8;");
            return x;
        }
    },
    /** 160 bytes are on the tape. */
    FULL_TAPE {
        @Override
        SeasonBound build() {
            SeasonBound x = Check.told("plain 1 2;");
            x.keep(0);
            Check.feed(x, "quick 3 4;" + " ".repeat(141) + "slow 2 1;");
            return x;
        }
    },
    /** Five children, six times something seen, both images. */
    CROWD {
        @Override
        SeasonBound build() {
            SeasonBound x = Check.told("plain 0 9;quick 1 9;slow 2 9;orphan 3 9;plain 9 9;");
            x.weeks(2);
            x.see(0, 0, 2);
            x.see(30, 1, 12);
            x.keep(0);
            for (int i = 0; i < 4; i++) {
                x.see(1 + i, i, 3);
            }
            x.keep(1);
            return x;
        }
    },
    /** The last week that may be. */
    LAST_WEEK {
        @Override
        SeasonBound build() {
            SeasonBound x = Check.told("plain 9 1;slow 9 1;");
            for (int i = 0; i < 33; i++) {
                x.weeks(30);
            }
            x.weeks(9);
            x.bind(1, 1, 99);
            layTwoBindings(x, 2, 2);
            return x;
        }
    };

    abstract SeasonBound build();

    /** Seven cells, of which the first six are two bindings of free ones in Snapshot. */
    private static void layTwoBindings(SeasonBound x, int k, int lane) {
        int[] cells = {4, 3, 9, 1, 2, 99, 7};
        x.sheet(k, lane, cells.length);
        for (int i = 0; i < cells.length; i++) {
            x.lay(k, i, cells[i]);
        }
    }
}
