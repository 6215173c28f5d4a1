import java.util.Arrays;

/** Children apprenticed to seasons; what each call answers stands in the document, promise by promise. */
public final class SeasonBound {
    public static final int BAD = -1, STATE = -2, FULL = -3, NONE = -4;

    private static final int SEASONS = 4;
    private static final int KINDS = 4;
    private static final int MOST_CHILDREN = 5;
    private static final int LONGEST = 9;
    private static final int TOP_GIFT = 9;
    private static final int TOP_SKILL = 99;
    private static final int TOP_TERM = 99;
    private static final int TOP_AGE = 999;
    private static final int TOP_WEEK = 999;
    private static final int RUN_WEEKS = 60;
    private static final int SEEN_WEEKS = 30;
    private static final int LUCK_WEEKS = 8;
    private static final int MOST_SEEN = 6;
    private static final int IMAGES = 2;
    private static final int TERM_OF_THE_FREE = 12;

    private static final int TAPE_BYTES = 160;
    private static final int FREE_IN_TEXT = 9;
    private static final int NO_TOKEN = 1, MISPLACED = 2, OUT_OF_BOUNDS = 3, SECOND_TIME = 4, SIXTH_CHILD = 5;
    private static final int FAULTED = -10;

    private static final int SHEETS = 4;
    private static final int LANES = 3;
    private static final int MOST_CELLS = 40;
    private static final int MOST_READ = 13;
    private static final int NULL_FAULT = 1, INDEX_FAULT = 2, CAST_FAULT = 3, SIZE_FAULT = 4;
    private static final int REFUSED = -20;

    private final Reader reader = new Reader();
    private final Tape tape = reader.tape;
    private final World world = new World();
    /** Where what is only asked is tried out, so that the world itself stays. */
    private final World trial = new World();
    private final World[] images = new World[IMAGES];
    private final boolean[] kept = new boolean[IMAGES];
    private final Sheet[] sheets = new Sheet[SHEETS];
    private final Best best = new Best();
    private final Odds odds = new Odds();
    private int latestFault;
    private int latestTorn;

    public SeasonBound() {
        for (int k = 0; k < IMAGES; k++) {
            images[k] = new World();
        }
        for (int k = 0; k < SHEETS; k++) {
            sheets[k] = new Sheet();
        }
    }

    // ---- the text

    public int feed(int c) {
        if (!within(c, 0, 127)) {
            return BAD;
        }
        if (tape.size >= TAPE_BYTES) {
            return FULL;
        }
        tape.append(c);
        return tape.size;
    }

    public int end(int n) {
        if (!within(n, 0, tape.size)) {
            return BAD;
        }
        int had = tape.size;
        tape.size = n;
        return had;
    }

    public int text() {
        int lines = reader.readAll(trial);
        latestFault = reader.fault;
        tape.size = 0;
        if (reader.fault != 0) {
            return FAULTED - reader.place;
        }
        world.copy(trial);
        for (int k = 0; k < IMAGES; k++) {
            kept[k] = false;
        }
        return lines;
    }

    public int fault() {
        return latestFault;
    }

    public int rule(int what) {
        switch (what) {
            case 0: return world.size;
            case 1: return world.week;
            case 2: return world.now;
            case 3: return world.left;
            case 4: return world.living();
            case 5: return world.skillSum();
            default: return BAD;
        }
    }

    public int child(int c, int what) {
        if (!world.has(c)) {
            return BAD;
        }
        Child child = world.children[c];
        switch (what) {
            case 0: return child.kind;
            case 1: return child.isFree() ? NONE : child.season;
            case 2: return child.term;
            case 3: return child.skill;
            case 4: return child.age;
            case 5: return child.isFree() ? NONE : learns(child.kind, world.seasons[child.season].gift);
            default: return BAD;
        }
    }

    public int season(int s, int what) {
        if (!isSeason(s)) {
            return BAD;
        }
        Season season = world.seasons[s];
        switch (what) {
            case 0: return season.length;
            case 1: return season.gift;
            case 2: return season.most;
            case 3: return world.boundTo(s);
            default: return BAD;
        }
    }

    // ---- what is changed

    public int alter(int c, int what, int v) {
        if (!world.has(c)) {
            return BAD;
        }
        Child child = world.children[c];
        int was = BAD;
        if (what == 0 && isKind(v)) {
            was = child.kind;
            child.kind = v;
        } else if (what == 1 && within(v, 0, TOP_SKILL)) {
            was = child.skill;
            child.skill = v;
        }
        return was;
    }

    public int set(int s, int what, int v) {
        if (!isSeason(s)) {
            return BAD;
        }
        Season season = world.seasons[s];
        int was = BAD;
        if (what == 0 && within(v, 1, LONGEST)) {
            was = season.length;
            season.length = v;
        } else if (what == 1 && within(v, 0, TOP_GIFT)) {
            was = season.gift;
            season.gift = v;
        } else if (what == 2 && within(v, 0, TOP_SKILL)) {
            was = season.most;
            season.most = v;
        }
        return was;
    }

    public int bind(int c, int s, int term) {
        return world.apprentice(c, s, term);
    }

    public int free(int c) {
        if (!world.has(c)) {
            return BAD;
        }
        Child child = world.children[c];
        if (child.isFree()) {
            return STATE;
        }
        int had = child.term;
        child.term = 0;
        return had;
    }

    public int born(int kind) {
        if (!isKind(kind)) {
            return BAD;
        }
        if (world.size >= MOST_CHILDREN) {
            return FULL;
        }
        world.add(kind);
        return world.size;
    }

    // ---- weeks

    public int weeks(int n) {
        if (!within(n, 0, SEEN_WEEKS)) {
            return BAD;
        }
        if (world.week + n > TOP_WEEK) {
            return FULL;
        }
        int before = world.skillSum();
        world.pass(n);
        return world.skillSum() - before;
    }

    public int runs(int n, int what) {
        if (!isRun(n) || !within(what, 0, 4)) {
            return BAD;
        }
        trial.copy(world);
        int deserted = 0;
        for (int i = 0; i < n; i++) {
            if (trial.living() == 0) {
                deserted++;
            }
            trial.passOne();
        }
        switch (what) {
            case 0: return trial.skillSum();
            case 1: return trial.freeOnes();
            case 2: return deserted;
            case 3: return trial.ageSum();
            default: return trial.now;
        }
    }

    public int ahead(int c, int n, int what) {
        if (!world.has(c) || !isRun(n) || !within(what, 0, 2)) {
            return BAD;
        }
        trial.copy(world);
        trial.pass(n);
        Child child = trial.children[c];
        switch (what) {
            case 0: return child.skill;
            case 1: return child.age;
            default: return child.term;
        }
    }

    public int home(int c) {
        if (!world.has(c)) {
            return BAD;
        }
        trial.copy(world);
        for (int behind = 0; behind <= RUN_WEEKS; behind++) {
            if (trial.children[c].isFree()) {
                return behind;
            }
            trial.passOne();
        }
        return NONE;
    }

    public int meet(int c, int d) {
        if (!world.has(c) || !world.has(d) || c == d) {
            return BAD;
        }
        int both = 1 << c | 1 << d;
        trial.copy(world);
        for (int behind = 0; behind <= RUN_WEEKS; behind++) {
            if ((trial.living() & both) == both) {
                return behind;
            }
            trial.passOne();
        }
        return NONE;
    }

    // ---- what is best

    public int place(int c, int n, int what) {
        if (!world.has(c) || !isRun(n) || !isWhichOrHowMuch(what)) {
            return BAD;
        }
        best.seekAbove(-1);
        for (int s = 0; s < SEASONS; s++) {
            trial.copy(world);
            Child child = trial.children[c];
            child.season = s;
            if (child.isFree()) {
                child.term = TERM_OF_THE_FREE;
            }
            trial.pass(n);
            best.offer(s, child.skill);
        }
        return best.told(what);
    }

    public int swap(int n, int what) {
        if (!isRun(n) || !isWhichOrHowMuch(what)) {
            return BAD;
        }
        best.seekAbove(skillsAsItIs(n));
        for (int c = 0; c < world.size; c++) {
            for (int d = c + 1; d < world.size; d++) {
                if (!world.children[c].isFree() && !world.children[d].isFree()) {
                    best.offer(10 * c + d, skillsIfSwapped(c, d, n));
                }
            }
        }
        return best.told(what);
    }

    private int skillsIfSwapped(int c, int d, int n) {
        trial.copy(world);
        trial.children[c].season = world.children[d].season;
        trial.children[d].season = world.children[c].season;
        return skillsOfTrial(n);
    }

    public int span(int s, int n, int what) {
        if (!isSeason(s) || !isRun(n) || !isWhichOrHowMuch(what)) {
            return BAD;
        }
        best.seekAbove(-1);
        for (int length = 1; length <= LONGEST; length++) {
            trial.copy(world);
            trial.seasons[s].length = length;
            best.offer(length, skillsOfTrial(n));
        }
        return best.told(what);
    }

    public int gift(int n, int what) {
        if (!isRun(n) || !isWhichOrHowMuch(what)) {
            return BAD;
        }
        best.seekAbove(skillsAsItIs(n));
        for (int s = 0; s < SEASONS; s++) {
            if (world.seasons[s].gift < TOP_GIFT) {
                trial.copy(world);
                trial.seasons[s].gift++;
                best.offer(s, skillsOfTrial(n));
            }
        }
        return best.told(what);
    }

    public int term(int c, int n, int k) {
        if (!world.has(c) || !isRun(n) || !within(k, 0, TOP_SKILL)) {
            return BAD;
        }
        if (world.children[c].isFree()) {
            return STATE;
        }
        trial.copy(world);
        Child child = trial.children[c];
        // A term shorter than the lessons taken only cuts them off, so the
        // lessons that the longest term needs to reach k are the least term.
        child.term = TOP_TERM;
        for (int behind = 0; behind < n && child.skill < k; behind++) {
            trial.passOne();
        }
        return child.skill < k ? NONE : Math.max(1, TOP_TERM - child.term);
    }

    public int kind(int c, int n, int what) {
        if (!world.has(c) || !isRun(n) || !isWhichOrHowMuch(what)) {
            return BAD;
        }
        best.seekAbove(-1);
        for (int kind = 0; kind < KINDS; kind++) {
            trial.copy(world);
            trial.children[c].kind = kind;
            best.offer(kind, skillsOfTrial(n));
        }
        return best.told(what);
    }

    private int skillsAsItIs(int n) {
        trial.copy(world);
        return skillsOfTrial(n);
    }

    private int skillsOfTrial(int n) {
        trial.pass(n);
        return trial.skillSum();
    }

    // ---- weeks that are let off

    public long luck(int v, int c, int n, int k, int what) {
        if (!isLuck(v, n, what) || !world.has(c) || !within(k, 0, TOP_SKILL)) {
            return BAD;
        }
        trial.copy(world);
        trial.pass(n);
        int lessons = lessonsInTrial(c);
        odds.spread(v, lessons);
        long reached = 0;
        for (int taken = 0; taken <= lessons; taken++) {
            if (world.skillBehindLessons(c, taken) >= k) {
                reached += odds.of(taken);
            }
        }
        return partOfFraction(reached, powerOfTen(lessons), what);
    }

    public long mean(int v, int n, int what) {
        if (!isLuck(v, n, what)) {
            return BAD;
        }
        trial.copy(world);
        trial.pass(n);
        long sum = 0;
        for (int c = 0; c < world.size; c++) {
            int lessons = lessonsInTrial(c);
            sum += skillOverLuck(v, c, lessons) * powerOfTen(n - lessons);
        }
        return partOfFraction(sum, powerOfTen(n), what);
    }

    /** The mean skill of a child behind so many lessons, times ten to the power of them. */
    private long skillOverLuck(int v, int c, int lessons) {
        odds.spread(v, lessons);
        long sum = 0;
        for (int taken = 0; taken <= lessons; taken++) {
            sum += odds.of(taken) * world.skillBehindLessons(c, taken);
        }
        return sum;
    }

    /** Each lesson costs a week of the term, whether it is let off or not. */
    private int lessonsInTrial(int c) {
        return world.children[c].term - trial.children[c].term;
    }

    private static boolean isLuck(int v, int n, int what) {
        return within(v, 0, 10) && within(n, 0, LUCK_WEEKS) && within(what, 0, 1);
    }

    private static long powerOfTen(int exponent) {
        long power = 1;
        for (int i = 0; i < exponent; i++) {
            power *= 10;
        }
        return power;
    }

    private static long partOfFraction(long above, long below, int what) {
        long a = below;
        long b = above;
        // Euclid's steps are under a hundred for any two longs.
        for (int i = 0; i < 100 && b != 0; i++) {
            long rest = a % b;
            a = b;
            b = rest;
        }
        if (a == 0) {
            return BAD;
        }
        return (what == 0 ? above : below) / a;
    }

    // ---- from skills

    public int see(int n, int c, int k) {
        if (!within(n, 0, SEEN_WEEKS) || !world.has(c) || !within(k, 0, TOP_SKILL)) {
            return BAD;
        }
        if (world.seen >= MOST_SEEN) {
            return FULL;
        }
        world.note(n, c, k);
        return world.seen;
    }

    public int forget(int n) {
        if (!within(n, 0, world.seen)) {
            return BAD;
        }
        int were = world.seen;
        world.seen = n;
        return were;
    }

    public int kinds(int c) {
        if (!world.has(c)) {
            return BAD;
        }
        int fitting = 0;
        for (int kind = 0; kind < KINDS; kind++) {
            trial.copy(world);
            trial.children[c].kind = kind;
            if (trial.comesAsSeen()) {
                fitting |= 1 << kind;
            }
        }
        return fitting;
    }

    public int seasons(int c) {
        if (!world.has(c)) {
            return BAD;
        }
        if (world.children[c].isFree()) {
            return STATE;
        }
        int fitting = 0;
        for (int s = 0; s < SEASONS; s++) {
            trial.copy(world);
            trial.children[c].season = s;
            if (trial.comesAsSeen()) {
                fitting |= 1 << s;
            }
        }
        return fitting;
    }

    public int gifts(int s) {
        return isSeason(s) ? fittingGifts(s) : BAD;
    }

    public int ask(int s, int what) {
        if (!isSeason(s) || !isWhichOrHowMuch(what)) {
            return BAD;
        }
        int fitting = fittingGifts(s);
        int fewest = Integer.bitCount(fitting);
        int question = NONE;
        trial.copy(world);
        for (int behind = 0; behind <= SEEN_WEEKS && fewest > 1; behind++) {
            for (int c = 0; c < world.size; c++) {
                // A child that is not bound to the season tells nothing of its gift.
                if (world.children[c].isBoundTo(s)) {
                    int worst = mostAlike(s, fitting, c);
                    if (worst < fewest) {
                        fewest = worst;
                        question = 10 * behind + c;
                    }
                }
            }
            trial.passOne();
        }
        return question == NONE || what == 0 ? question : fewest;
    }

    private int fittingGifts(int s) {
        int fitting = 0;
        for (int gift = 0; gift <= TOP_GIFT; gift++) {
            trial.copy(world);
            trial.seasons[s].gift = gift;
            if (trial.comesAsSeen()) {
                fitting |= 1 << gift;
            }
        }
        return fitting;
    }

    /** How many of the gifts, at most, bring a child to one skill behind the weeks that the trial has run. */
    private int mostAlike(int s, int fitting, int c) {
        Child child = world.children[c];
        int lessons = lessonsInTrial(c);
        int most = 0;
        int alike = 0;
        int latest = NONE;
        // The skill never falls as the gift grows: equal skills come one behind another.
        for (int gift = 0; gift <= TOP_GIFT; gift++) {
            if ((fitting & 1 << gift) != 0) {
                int skill = raised(child.skill, lessons * learns(child.kind, gift), world.seasons[s].most);
                alike = skill == latest ? alike + 1 : 1;
                latest = skill;
                most = Math.max(most, alike);
            }
        }
        return most;
    }

    // ---- by a seed

    public int drift(int seed, int n, int what) {
        if (!within(n, 1, RUN_WEEKS) || !within(what, 0, 1)) {
            return BAD;
        }
        int size = world.size;
        if (size == 0) {
            return STATE;
        }
        trial.copy(world);
        int running = seed;
        for (int i = 0; i < n; i++) {
            running = running * 1103515245 + 12345;
            int got = running >>> 16 & 0x7fff;
            // One that is bound already is refused there, and stays as it is.
            trial.apprentice(got % size, got / 8 % SEASONS, 1 + got / 32 % 9);
            trial.passOne();
        }
        return what == 0 ? trial.skillSum() : trial.ageSum();
    }

    // ---- images, sheets

    public int keep(int k) {
        if (!isImage(k)) {
            return BAD;
        }
        int was = kept[k] ? 1 : 0;
        images[k].copy(world);
        kept[k] = true;
        return was;
    }

    public int back(int k) {
        if (!isImage(k)) {
            return BAD;
        }
        if (!kept[k]) {
            return STATE;
        }
        world.copy(images[k]);
        return world.week;
    }

    public int sheet(int k, int lane, int n) {
        if (!isSheet(k) || !isLane(lane) || n > MOST_CELLS) {
            return BAD;
        }
        if (n < 0) {
            return FAULTED - SIZE_FAULT;
        }
        sheets[k].renew(lane, n);
        return 1;
    }

    public int lay(int k, int i, int v) {
        if (!isSheet(k)) {
            return BAD;
        }
        Sheet sheet = sheets[k];
        int found = sheet.faultIn(sheet.lane, i, 1);
        if (found != 0) {
            return FAULTED - found;
        }
        sheet.put(i, v);
        return 1;
    }

    public int read(int k, int lane, int f, int n) {
        if (!isSheet(k) || !isLane(lane) || !within(n, 0, MOST_READ)) {
            return BAD;
        }
        Sheet sheet = sheets[k];
        trial.copy(world);
        int came = 0;
        int found = 0;
        while (came < n) {
            int at = f + 3 * came;
            found = sheet.faultIn(lane, at, 3);
            if (found != 0) {
                break;
            }
            if (trial.apprentice(sheet.cells[at], sheet.cells[at + 1], sheet.cells[at + 2]) < 0) {
                return REFUSED - came;
            }
            came++;
        }
        world.copy(trial);
        latestTorn = found;
        return came;
    }

    public int torn() {
        return latestTorn;
    }

    public int count(int what) {
        switch (what) {
            case 0: return world.seen;
            case 1: return countKept();
            case 2: return tape.size;
            case 3: return sheets[0].isNothing() ? NONE : sheets[0].size;
            case 4: return world.lengthSum();
            case 5: return world.termSum();
            default: return BAD;
        }
    }

    private int countKept() {
        int many = 0;
        for (int k = 0; k < IMAGES; k++) {
            if (kept[k]) {
                many++;
            }
        }
        return many;
    }

    // ---- what numbers may be, and what one learns

    private static boolean within(int v, int least, int most) {
        return v >= least && v <= most;
    }

    private static boolean isSeason(int s) {
        return within(s, 0, SEASONS - 1);
    }

    private static boolean isKind(int kind) {
        return within(kind, 0, KINDS - 1);
    }

    private static boolean isRun(int n) {
        return within(n, 0, RUN_WEEKS);
    }

    private static boolean isWhichOrHowMuch(int what) {
        return within(what, 0, 1);
    }

    private static boolean isImage(int k) {
        return within(k, 0, IMAGES - 1);
    }

    private static boolean isSheet(int k) {
        return within(k, 0, SHEETS - 1);
    }

    private static boolean isLane(int lane) {
        return within(lane, 0, LANES - 1);
    }

    private static int learns(int kind, int gift) {
        int halfUp = (gift + 1) / 2;
        switch (kind) {
            case 0: return gift;
            case 1: return 2 * gift;
            case 2: return halfUp;
            default: return halfUp + 1;
        }
    }

    private static int raised(int skill, int by, int most) {
        return skill >= most ? skill : Math.min(most, skill + by);
    }

    private static final class Season {
        int length;
        int gift;
        int most;

        void renew() {
            length = 3;
            gift = 1;
            most = TOP_SKILL;
        }

        void copy(Season other) {
            length = other.length;
            gift = other.gift;
            most = other.most;
        }
    }

    private static final class Child {
        int kind;
        /** Means nothing while the child is free. */
        int season;
        int term;
        int skill;
        int age;

        void renew(int ofKind) {
            kind = ofKind;
            season = 0;
            term = 0;
            skill = 0;
            age = 0;
        }

        void copy(Child other) {
            kind = other.kind;
            season = other.season;
            term = other.term;
            skill = other.skill;
            age = other.age;
        }

        boolean isFree() {
            return term == 0;
        }

        boolean isBoundTo(int s) {
            return term > 0 && season == s;
        }

        boolean livesIn(int now) {
            return term == 0 || season == now;
        }

        void liveWeekOf(Season current) {
            age = Math.min(TOP_AGE, age + 1);
            if (term > 0) {
                skill = raised(skill, learns(kind, current.gift), current.most);
                term--;
            }
        }
    }

    /** All that an image holds. */
    private static final class World {
        final Season[] seasons = new Season[SEASONS];
        final Child[] children = new Child[MOST_CHILDREN];
        int size;
        int now;
        int left;
        int week;
        final int[] seenBehind = new int[MOST_SEEN];
        final int[] seenChild = new int[MOST_SEEN];
        final int[] seenSkill = new int[MOST_SEEN];
        int seen;

        World() {
            for (int s = 0; s < SEASONS; s++) {
                seasons[s] = new Season();
            }
            for (int c = 0; c < MOST_CHILDREN; c++) {
                children[c] = new Child();
            }
            renew();
        }

        void renew() {
            for (int s = 0; s < SEASONS; s++) {
                seasons[s].renew();
            }
            size = 0;
            seen = 0;
            beginAtSpring();
        }

        void beginAtSpring() {
            now = 0;
            left = seasons[0].length;
            week = 0;
        }

        void copy(World other) {
            for (int s = 0; s < SEASONS; s++) {
                seasons[s].copy(other.seasons[s]);
            }
            for (int c = 0; c < other.size; c++) {
                children[c].copy(other.children[c]);
            }
            size = other.size;
            now = other.now;
            left = other.left;
            week = other.week;
            for (int i = 0; i < other.seen; i++) {
                seenBehind[i] = other.seenBehind[i];
                seenChild[i] = other.seenChild[i];
                seenSkill[i] = other.seenSkill[i];
            }
            seen = other.seen;
        }

        boolean has(int c) {
            return within(c, 0, size - 1);
        }

        void add(int kind) {
            if (size < MOST_CHILDREN) {
                children[size].renew(kind);
                size++;
            }
        }

        /** Binds a child as bind() tells, and answers as it does. */
        int apprentice(int c, int s, int term) {
            if (!has(c) || !isSeason(s) || !within(term, 1, TOP_TERM)) {
                return BAD;
            }
            Child child = children[c];
            if (!child.isFree()) {
                return STATE;
            }
            child.season = s;
            child.term = term;
            return Integer.bitCount(boundTo(s));
        }

        void pass(int n) {
            for (int i = 0; i < n; i++) {
                passOne();
            }
        }

        void passOne() {
            for (int c = 0; c < size; c++) {
                if (children[c].livesIn(now)) {
                    children[c].liveWeekOf(seasons[now]);
                }
            }
            left--;
            if (left == 0) {
                now = (now + 1) % SEASONS;
                left = seasons[now].length;
            }
            week++;
        }

        void note(int behind, int c, int skill) {
            if (seen < MOST_SEEN) {
                seenBehind[seen] = behind;
                seenChild[seen] = c;
                seenSkill[seen] = skill;
                seen++;
            }
        }

        /** Runs this world on, as far as something was seen, and tells whether all comes so. */
        boolean comesAsSeen() {
            int last = lastSeen();
            for (int behind = 0; behind <= last; behind++) {
                if (!isAsSeen(behind)) {
                    return false;
                }
                passOne();
            }
            return true;
        }

        private int lastSeen() {
            int last = -1;
            for (int i = 0; i < seen; i++) {
                last = Math.max(last, seenBehind[i]);
            }
            return last;
        }

        private boolean isAsSeen(int behind) {
            for (int i = 0; i < seen; i++) {
                if (seenBehind[i] == behind && has(seenChild[i])
                        && children[seenChild[i]].skill != seenSkill[i]) {
                    return false;
                }
            }
            return true;
        }

        int skillBehindLessons(int c, int lessons) {
            Child child = children[c];
            Season season = seasons[child.season];
            return raised(child.skill, lessons * learns(child.kind, season.gift), season.most);
        }

        int living() {
            int bits = 0;
            for (int c = 0; c < size; c++) {
                if (children[c].livesIn(now)) {
                    bits |= 1 << c;
                }
            }
            return bits;
        }

        int freeOnes() {
            int bits = 0;
            for (int c = 0; c < size; c++) {
                if (children[c].isFree()) {
                    bits |= 1 << c;
                }
            }
            return bits;
        }

        int boundTo(int s) {
            int bits = 0;
            for (int c = 0; c < size; c++) {
                if (children[c].isBoundTo(s)) {
                    bits |= 1 << c;
                }
            }
            return bits;
        }

        int skillSum() {
            int sum = 0;
            for (int c = 0; c < size; c++) {
                sum += children[c].skill;
            }
            return sum;
        }

        int ageSum() {
            int sum = 0;
            for (int c = 0; c < size; c++) {
                sum += children[c].age;
            }
            return sum;
        }

        int termSum() {
            int sum = 0;
            for (int c = 0; c < size; c++) {
                sum += children[c].term;
            }
            return sum;
        }

        int lengthSum() {
            int sum = 0;
            for (int s = 0; s < SEASONS; s++) {
                sum += seasons[s].length;
            }
            return sum;
        }
    }

    /** The first offer that is above all others, and above what there is to beat. */
    private static final class Best {
        private int which;
        private int most;

        void seekAbove(int toBeat) {
            which = NONE;
            most = toBeat;
        }

        void offer(int candidate, int value) {
            if (value > most) {
                which = candidate;
                most = value;
            }
        }

        int told(int what) {
            return which == NONE || what == 0 ? which : most;
        }
    }

    /** By how many ways, of ten to the power of the lessons, so many of them are taken. */
    private static final class Odds {
        private final long[] ways = new long[LUCK_WEEKS + 1];

        /** Of ten ways through a lesson, letOff take nothing from it. */
        void spread(int letOff, int lessons) {
            Arrays.fill(ways, 0);
            ways[0] = 1;
            int most = Math.min(lessons, LUCK_WEEKS);
            for (int lesson = 0; lesson < most; lesson++) {
                for (int taken = lesson + 1; taken > 0; taken--) {
                    ways[taken] = ways[taken] * letOff + ways[taken - 1] * (10 - letOff);
                }
                ways[0] *= letOff;
            }
        }

        long of(int taken) {
            return within(taken, 0, LUCK_WEEKS) ? ways[taken] : 0;
        }
    }

    private static final class Tape {
        static final int END = 0, WRONG = 1, NAME = 2, NUMBER = 3, STOP = 4;

        final byte[] bytes = new byte[TAPE_BYTES];
        int size;
        /** Of the token that was read last: what it is, its first byte's place, its value. */
        int token;
        int start;
        int value;
        private int next;

        void append(int c) {
            if (size < TAPE_BYTES) {
                bytes[size] = (byte) c;
                size++;
            }
        }

        void rewind() {
            next = 0;
        }

        void readToken() {
            while (next < size && bytes[next] == ' ') {
                next++;
            }
            start = next;
            if (next >= size) {
                token = END;
            } else if (isLetter(bytes[next])) {
                readName();
            } else if (isFigure(bytes[next])) {
                readNumber();
            } else {
                token = bytes[next] == ';' ? STOP : WRONG;
                next++;
            }
        }

        private void readName() {
            while (next < size && isLetter(bytes[next])) {
                next++;
            }
            token = NAME;
        }

        private void readNumber() {
            value = 0;
            while (next < size && isFigure(bytes[next])) {
                // What is too long is refused below: a value that wraps is never used.
                value = 10 * value + bytes[next] - '0';
                next++;
            }
            token = next - start > 2 ? WRONG : NUMBER;
        }

        boolean isNamed(String name) {
            if (token != NAME || next - start != name.length()) {
                return false;
            }
            for (int i = 0; i < name.length(); i++) {
                if (bytes[start + i] != name.charAt(i)) {
                    return false;
                }
            }
            return true;
        }

        private static boolean isLetter(int c) {
            return c >= 'a' && c <= 'z';
        }

        private static boolean isFigure(int c) {
            return c >= '0' && c <= '9';
        }
    }

    /** Reads its tape into a world, up to the first fault. */
    private static final class Reader {
        private static final int LINES = SEASONS + KINDS;

        final Tape tape = new Tape();
        private int toldSeasons;
        int fault;
        int place;

        int readAll(World into) {
            into.renew();
            tape.rewind();
            toldSeasons = 0;
            fault = 0;
            int lines = 0;
            tape.readToken();
            // No line is shorter than a byte.
            while (lines < TAPE_BYTES && tape.token != Tape.END && readLine(into)) {
                lines++;
                tape.readToken();
            }
            into.beginAtSpring();
            return lines;
        }

        private boolean readLine(World into) {
            for (int line = 0; line < LINES; line++) {
                if (tape.isNamed(nameOf(line))) {
                    return (line < SEASONS ? readSeason(into.seasons[line], line) : readChild(into, line - SEASONS))
                        && readStop();
                }
            }
            return failAtToken();
        }

        private static String nameOf(int line) {
            switch (line) {
                case 0: return "spring";
                case 1: return "summer";
                case 2: return "autumn";
                case 3: return "winter";
                case 4: return "plain";
                case 5: return "quick";
                case 6: return "slow";
                default: return "orphan";
            }
        }

        private boolean readSeason(Season season, int s) {
            if ((toldSeasons & 1 << s) != 0) {
                return fail(SECOND_TIME);
            }
            toldSeasons |= 1 << s;
            if (!readNumber(1, LONGEST)) {
                return false;
            }
            season.length = tape.value;
            if (!readNumber(0, TOP_GIFT)) {
                return false;
            }
            season.gift = tape.value;
            if (!readNumber(0, TOP_SKILL)) {
                return false;
            }
            season.most = tape.value;
            return true;
        }

        private boolean readChild(World into, int kind) {
            if (into.size >= MOST_CHILDREN) {
                return fail(SIXTH_CHILD);
            }
            if (!readNumber(0, FREE_IN_TEXT)) {
                return false;
            }
            int season = tape.value;
            if (!isSeason(season) && season != FREE_IN_TEXT) {
                return fail(OUT_OF_BOUNDS);
            }
            if (!readNumber(1, TOP_TERM)) {
                return false;
            }
            into.add(kind);
            if (season != FREE_IN_TEXT) {
                into.apprentice(into.size - 1, season, tape.value);
            }
            return true;
        }

        private boolean readNumber(int least, int most) {
            tape.readToken();
            if (tape.token != Tape.NUMBER) {
                return failAtToken();
            }
            return within(tape.value, least, most) || fail(OUT_OF_BOUNDS);
        }

        private boolean readStop() {
            tape.readToken();
            return tape.token == Tape.STOP || failAtToken();
        }

        private boolean failAtToken() {
            return fail(tape.token == Tape.WRONG ? NO_TOKEN : MISPLACED);
        }

        private boolean fail(int found) {
            fault = found;
            place = tape.start;
            return false;
        }
    }

    /** A row of cells of a lane, or nothing. */
    private static final class Sheet {
        final int[] cells = new int[MOST_CELLS];
        int lane;
        int size = NONE;

        void renew(int ofLane, int n) {
            Arrays.fill(cells, 0);
            lane = ofLane;
            size = n;
        }

        boolean isNothing() {
            return size == NONE;
        }

        /** What the machine finds when so many cells from one on are taken as of a lane; 0: nothing. */
        int faultIn(int asLane, int from, int many) {
            if (isNothing()) {
                return NULL_FAULT;
            }
            if (asLane != lane) {
                return CAST_FAULT;
            }
            return within(from, 0, size - many) ? 0 : INDEX_FAULT;
        }

        void put(int i, int v) {
            switch (lane) {
                case 0: cells[i] = (byte) v; break;
                case 1: cells[i] = (short) v; break;
                default: cells[i] = v; break;
            }
        }
    }
}
