/** Children who read for liking and for stars, day by day: see ../shared/DOC.md for what each call promises. */
public final class StarChart {
    public static final int BAD = -1, STATE = -2, FULL = -3, NONE = -9;
    public static final int NO = -1000000;

    private static final int MOST_CHILDREN = 8;
    private static final int MOST_SORTS = 4;
    private static final int MOST_TEXT = 400;
    private static final int MOST_TRIALS = 30;
    private static final int MOST_STARS = 99;
    private static final int MOST_JAR = 999;
    private static final int MOST_LIKING = 100;
    private static final int MOST_WORTH = 100;
    private static final int MOST_PAY = 9;
    private static final int MOST_THIN = 20;
    private static final int LAST_DAY = 99;
    private static final int DAYS_AFTER = 7;

    private static final int IDLE = 0, GROW = 1, BOUGHT = 2, PRAISE = 3, WEAR = 4, MEND = 5, TUNES = 6;
    private static final int[] TUNE_FIRST = {10, 1, 6, 2, 3, 1};
    private static final int[] TUNE_MOST = {99, 9, 20, 9, 20, 9};

    private final Sheet sheet = new Sheet();
    private final Reader reader = new Reader();
    private final Course today = new Course();
    private final int[] tunes = new int[TUNES];
    private final Image first = new Image();
    private final Image second = new Image();
    private final Trials trials = new Trials();
    private final Jar jar = new Jar();
    // A class as it might be, and its days: what is foretold is tried out here, so that nothing is changed.
    private final Sheet guess = new Sheet();
    private final Course dream = new Course();
    private int chance = 1;
    private long asked = 0;

    public StarChart() {
        System.arraycopy(TUNE_FIRST, 0, tunes, 0, TUNES);
        sheet.wipe();
        today.begin(sheet, 0);
    }

    // ---- the class

    public int type(long v, int n) {
        if (!within(n, 1, 8)) return BAD;
        return reader.hear(v, n) ? reader.length : FULL;
    }

    public int clear() {
        int had = reader.length;
        reader.length = 0;
        return had;
    }

    public int chart() {
        int items = reader.readItems();
        if (items < 0) return -10 - reader.fault();
        reader.length = 0;
        sheet.copyOf(reader.draft);
        today.begin(sheet, 0);
        first.kept = false;
        second.kept = false;
        return items;
    }

    public int child(int c, int what) {
        if (!isChild(c)) return BAD;
        switch (what) {
            case 0: return sheet.liking[c];
            case 1: return sheet.able[c];
            case 2: return sheet.take[c];
            case 3: return today.liking[c];
            case 4: return today.pages[c];
            case 5: return today.stars[c];
            default: return BAD;
        }
    }

    public int book(int s, int what) {
        if (!isSort(s)) return BAD;
        switch (what) {
            case 0: return sheet.hard[s];
            case 1: return sheet.joy[s];
            case 2: return sheet.pay[s];
            default: return BAD;
        }
    }

    public int plan(int what) {
        switch (what) {
            case 0: return sheet.from;
            case 1: return sheet.until;
            case 2: return sheet.told ? 1 : 0;
            case 3: return sheet.thin;
            default: return BAD;
        }
    }

    public int tune(int what, int v) {
        if (!within(what, 0, TUNES - 1) || !within(v, 0, TUNE_MOST[what])) return BAD;
        int was = tunes[what];
        tunes[what] = v;
        return was;
    }

    // ---- days

    public int given(int s, int day) {
        return isSort(s) && isDay(day) ? sheet.givenOn(s, day) : BAD;
    }

    public int want(int c, int s, int what) {
        if (!isChild(c) || !isSort(s)) return BAD;
        switch (what) {
            case 0: return sheet.pagesIn(c, s);
            case 1: return today.joysOf(sheet, c, s);
            case 2: return today.starsFor(sheet, c, s);
            case 3: return today.wantOf(sheet, c, s);
            default: return BAD;
        }
    }

    public int choice(int c) {
        return isChild(c) ? today.choiceOf(sheet, c, tunes[IDLE]) : BAD;
    }

    public int go(int n) {
        if (!within(n, 1, LAST_DAY)) return BAD;
        if (today.day >= LAST_DAY) return STATE;
        int many = Math.min(n, LAST_DAY - today.day);
        for (int i = 0; i < many; i++) today.pass(sheet, tunes);
        return many;
    }

    public int now(int what) {
        switch (what) {
            case 0: return today.day;
            case 1: return today.worth;
            case 2: return Course.sumOf(today.liking, sheet.children);
            case 3: return Course.sumOf(today.pages, sheet.children);
            case 4: return Course.sumOf(today.stars, sheet.children);
            default: return BAD;
        }
    }

    public int anew() {
        int was = today.day;
        today.begin(sheet, 0);
        return was;
    }

    // ---- foretold

    public int term(int what) {
        if (!within(what, 0, 2)) return BAD;
        guess.copyOf(sheet);
        if (what == 0) return pagesBetween(sheet.from, sheet.until);
        if (what == 2) guess.payNothing();
        int behind = sheet.until + sheet.thin;
        return pagesBetween(behind, Math.min(behind + DAYS_AFTER, LAST_DAY));
    }

    public int end(int n) {
        if (!isDay(n)) return BAD;
        guess.copyOf(sheet);
        return likingOn(n);
    }

    public int best(int s, int n, int what) {
        if (!isSort(s) || !within(n, sheet.from, LAST_DAY) || !within(what, 0, 2)) return BAD;
        guess.copyOf(sheet);
        guess.payNothing();
        int bestPay = 0, bestUntil = sheet.from, bestEnd = -1;
        for (int v = 0; v <= MOST_PAY; v++) {
            guess.pay[s] = v;
            // Where nothing is paid, it is all one until when: the least is enough.
            int lastUntil = v == 0 ? sheet.from : n;
            for (int u = sheet.from; u <= lastUntil; u++) {
                guess.until = u;
                int reached = likingOn(n);
                if (reached > bestEnd) {
                    bestPay = v;
                    bestUntil = u;
                    bestEnd = reached;
                }
            }
        }
        return what == 0 ? bestPay : what == 1 ? bestUntil : bestEnd;
    }

    public int line(int able, int take, int n) {
        if (!within(able, 1, 9) || !within(take, 0, 9) || !isDay(n)) return BAD;
        for (int liking = 0; liking <= MOST_LIKING; liking++) {
            guess.copyOf(sheet);
            guess.teachOne(liking, able, take);
            int byPlan = likingOn(n);
            guess.payNothing();
            if (byPlan < likingOn(n)) return liking;
        }
        return NONE;
    }

    public int ending(int n) {
        if (!isDay(n)) return BAD;
        guess.copyOf(sheet);
        int bestThin = 0, bestEnd = -1;
        for (int thin = 0; thin <= MOST_THIN; thin++) {
            guess.thin = thin;
            int reached = likingOn(n);
            if (reached > bestEnd) {
                bestThin = thin;
                bestEnd = reached;
            }
        }
        return bestThin;
    }

    public int easy() {
        int easiest = 0;
        for (int s = 1; s < sheet.sorts; s++) {
            if (sheet.hard[s] < sheet.hard[easiest]) easiest = s;
        }
        int many = 0;
        for (int c = 0; c < sheet.children; c++) {
            if (today.choiceOf(sheet, c, tunes[IDLE]) == easiest) many++;
        }
        return many;
    }

    public int stays(int c, int s) {
        if (!isChild(c) || !isSort(s)) return BAD;
        guess.copyOf(sheet);
        dream.begin(guess, guess.from);
        for (int v = 0; v <= MOST_PAY; v++) {
            guess.pay[s] = v;
            if (dream.choiceOf(guess, c, tunes[IDLE]) == s) return v;
        }
        return NONE;
    }

    // ---- a jar, checks

    public int rests(int m, int v, int what) {
        if (!within(m, 1, MOST_JAR) || !within(v, 0, MOST_STARS) || !within(what, 0, 1)) return BAD;
        if (sheet.sorts == 0) return STATE;
        fillJar(m, v);
        int many = 0, least = NONE;
        for (int set = 0; set < 1 << sheet.children; set++) {
            if (jar.isRest(set)) {
                if (many == 0) least = set;
                many++;
            }
        }
        return what == 0 ? many : least;
    }

    public int blamed(int m, int set) {
        if (!within(m, 1, MOST_JAR) || !within(set, 0, (1 << sheet.children) - 1)) return BAD;
        if (sheet.sorts == 0) return STATE;
        fillJar(m, 0);
        return jar.blamedFor(set);
    }

    public int checks(int f) {
        if (!within(f, 0, MOST_STARS)) return BAD;
        int most = 0;
        for (int c = 0; c < sheet.children; c++) {
            int s = today.choiceOf(sheet, c, tunes[IDLE]);
            if (s >= 0) most = Math.max(most, sheet.pagesIn(c, s) * sheet.givenOn(s, today.day));
        }
        int tenths = 0;
        while (tenths < 10 && tenths * f < (10 - tenths) * most) tenths++;
        return tenths;
    }

    // ---- trials, halves

    public int trial(int sort, int came) {
        if (!within(sort, 0, 7) || !within(came, -99, 99)) return BAD;
        return trials.note(sort, came) ? trials.many : FULL;
    }

    public int joined(int sorts, int what) {
        if (!within(sorts, 0, Trials.ALL) || !within(what, 0, 1)) return NO;
        return trials.meanOf(sorts, what);
    }

    public int parts() {
        return trials.farthestBit();
    }

    public int ahead(int sort, int what) {
        if (!within(sort, 0, 7) || !within(what, 0, 1)) return NO;
        int own = 1 << sort;
        return trials.meanOf(trials.manyOf(own) > 0 ? own : Trials.ALL, what);
    }

    public int halves(int n) {
        if (!isDay(n)) return NO;
        guess.copyOf(sheet);
        int paid = 0;
        for (int c = 0; c < guess.children; c++) {
            chance = chance * 1103515245 + 12345;
            int draw = chance >>> 16;
            if ((draw & 1) == 1) paid |= 1 << c;
            else guess.take[c] = 0;
        }
        int all = likingOn(n);
        int others = 0;
        for (int c = 0; c < guess.children; c++) {
            if ((paid >> c & 1) == 0) others += dream.liking[c];
        }
        return all - 2 * others;
    }

    public int lot(int v) {
        int was = chance;
        chance = v;
        return was;
    }

    // ---- kinds, images

    public int rate(int kind, int c) {
        if (!isChild(c)) return NO;
        switch (kind) {
            case 0: return rateOfPay(c);
            case 1: return rateOfTold(c);
            case 2: return rateOfUnforeseen(c);
            case 3: return rateOfDoing(c);
            case 4: return rateOfWell(c);
            case 5: return rateOfCommon(c);
            default: return NO;
        }
    }

    public int keep(int image) {
        if (!within(image, 0, 1)) return BAD;
        Image chosen = imageOf(image);
        chosen.kept = true;
        chosen.chance = chance;
        chosen.course.copyOf(today);
        return today.day;
    }

    public int back(int image) {
        if (!within(image, 0, 1)) return BAD;
        Image chosen = imageOf(image);
        if (!chosen.kept) return STATE;
        chance = chosen.chance;
        today.copyOf(chosen.course);
        return today.day;
    }

    public int count(int what) {
        switch (what) {
            case 0: return sheet.children;
            case 1: return sheet.sorts;
            case 2: return trials.many;
            case 3: return reader.length;
            default: return BAD;
        }
    }

    public long trace() {
        return asked;
    }

    // ---- what the calls share

    private static boolean within(int v, int least, int most) {
        return v >= least && v <= most;
    }

    private boolean isChild(int c) {
        return within(c, 0, sheet.children - 1);
    }

    private boolean isSort(int s) {
        return within(s, 0, sheet.sorts - 1);
    }

    private static boolean isDay(int n) {
        return within(n, 0, LAST_DAY);
    }

    private Image imageOf(int image) {
        return image == 0 ? first : second;
    }

    /** Pages of the guessed class from a day on till ahead of another. */
    private int pagesBetween(int fromDay, int toDay) {
        dream.begin(guess, 0);
        int read = 0;
        for (int day = 0; day < toDay; day++) {
            int pages = dream.pass(guess, tunes);
            if (day >= fromDay) read += pages;
        }
        return read;
    }

    /** LIKINGS of the guessed class on a day, added. */
    private int likingOn(int n) {
        dream.begin(guess, 0);
        for (int day = 0; day < n; day++) dream.pass(guess, tunes);
        return Course.sumOf(dream.liking, guess.children);
    }

    /** The jar holds what each child would read and have of it NOW, were there no stars but the jar's. */
    private void fillJar(int m, int v) {
        guess.copyOf(sheet);
        guess.payNothing();
        jar.goal = m;
        jar.children = guess.children;
        for (int c = 0; c < guess.children; c++) {
            int s = Math.max(today.choiceOf(guess, c, tunes[IDLE]), 0);
            jar.pages[c] = guess.pagesIn(c, s);
            jar.gain[c] = today.joysOf(guess, c, s) - tunes[IDLE];
            jar.prize[c] = v * guess.take[c] * today.worth / 100;
        }
    }

    private int rateOfPay(int c) {
        asked += 1;
        return today.stars[c];
    }

    private int rateOfTold(int c) {
        asked += 10;
        return rateOfPay(c) - today.liking[c];
    }

    private int rateOfUnforeseen(int c) {
        asked += 100;
        return rateOfPay(c) + today.liking[c];
    }

    private int rateOfDoing(int c) {
        asked += 1000;
        return rateOfTold(c) + today.pages[c];
    }

    private int rateOfWell(int c) {
        asked += 10000;
        // Twice what DOING answers, not DOING asked twice: THE TRACE counts each body once.
        return 2 * rateOfDoing(c);
    }

    private int rateOfCommon(int c) {
        asked += 100000;
        return rateOfPay(c) + today.worth;
    }

    /** What a text tells: the children, the sorts of books, the plan. */
    private static final class Sheet {
        int children, sorts;
        final int[] liking = new int[MOST_CHILDREN];
        final int[] able = new int[MOST_CHILDREN];
        final int[] take = new int[MOST_CHILDREN];
        final int[] hard = new int[MOST_SORTS];
        final int[] joy = new int[MOST_SORTS];
        final int[] pay = new int[MOST_SORTS];
        int from, until, thin;
        boolean told;

        void wipe() {
            children = 0;
            sorts = 0;
            schedule(0, 0, true, 0);
            payNothing();
        }

        void schedule(int firstDay, int endDay, boolean isTold, int thinDays) {
            from = firstDay;
            until = endDay;
            told = isTold;
            thin = thinDays;
        }

        void copyOf(Sheet other) {
            children = other.children;
            sorts = other.sorts;
            schedule(other.from, other.until, other.told, other.thin);
            System.arraycopy(other.liking, 0, liking, 0, MOST_CHILDREN);
            System.arraycopy(other.able, 0, able, 0, MOST_CHILDREN);
            System.arraycopy(other.take, 0, take, 0, MOST_CHILDREN);
            System.arraycopy(other.hard, 0, hard, 0, MOST_SORTS);
            System.arraycopy(other.joy, 0, joy, 0, MOST_SORTS);
            System.arraycopy(other.pay, 0, pay, 0, MOST_SORTS);
        }

        void payNothing() {
            for (int s = 0; s < MOST_SORTS; s++) pay[s] = 0;
        }

        void addChild(int itsLiking, int itsAble, int itsTake) {
            if (children >= MOST_CHILDREN) return;
            liking[children] = itsLiking;
            able[children] = itsAble;
            take[children] = itsTake;
            children++;
        }

        void addSort(int itsHard, int itsJoy) {
            if (sorts >= MOST_SORTS) return;
            hard[sorts] = itsHard;
            joy[sorts] = itsJoy;
            sorts++;
        }

        void teachOne(int itsLiking, int itsAble, int itsTake) {
            children = 0;
            addChild(itsLiking, itsAble, itsTake);
        }

        int pagesIn(int c, int s) {
            return hard[s] > 0 ? 6 * able[c] / hard[s] : 0;
        }

        int givenOn(int s, int day) {
            if (day < from || day >= until + thin) return 0;
            return day < until ? pay[s] : pay[s] * (until + thin - day) / (thin + 1);
        }

        boolean givesNothing(int day) {
            for (int s = 0; s < sorts; s++) {
                if (givenOn(s, day) > 0) return false;
            }
            return true;
        }
    }

    /** How far a class has come, and its days as they go by. */
    private static final class Course {
        int day, worth;
        final int[] liking = new int[MOST_CHILDREN];
        final int[] pages = new int[MOST_CHILDREN];
        final int[] stars = new int[MOST_CHILDREN];

        void begin(Sheet told, int onDay) {
            day = onDay;
            worth = MOST_WORTH;
            for (int c = 0; c < MOST_CHILDREN; c++) {
                liking[c] = told.liking[c];
                pages[c] = 0;
                stars[c] = 0;
            }
        }

        void copyOf(Course other) {
            day = other.day;
            worth = other.worth;
            System.arraycopy(other.liking, 0, liking, 0, MOST_CHILDREN);
            System.arraycopy(other.pages, 0, pages, 0, MOST_CHILDREN);
            System.arraycopy(other.stars, 0, stars, 0, MOST_CHILDREN);
        }

        static int sumOf(int[] row, int many) {
            int sum = 0;
            for (int c = 0; c < many && c < row.length; c++) sum += row[c];
            return sum;
        }

        int joysOf(Sheet told, int c, int s) {
            return told.joy[s] * liking[c] / 10;
        }

        int starsFor(Sheet told, int c, int s) {
            return told.pagesIn(c, s) * told.givenOn(s, day) * told.take[c] * worth / 100;
        }

        int wantOf(Sheet told, int c, int s) {
            int joys = joysOf(told, c, s);
            return told.told ? joys + starsFor(told, c, s) : joys;
        }

        int choiceOf(Sheet told, int c, int idle) {
            int chosen = NONE, greatest = idle - 1;
            for (int s = 0; s < told.sorts; s++) {
                int want = wantOf(told, c, s);
                if (want > greatest) {
                    chosen = s;
                    greatest = want;
                }
            }
            return chosen;
        }

        /** A day goes by: the pages that all read on it. */
        int pass(Sheet told, int[] tunes) {
            int pagesOfAll = 0, starsOfAll = 0;
            for (int c = 0; c < told.children; c++) {
                int s = choiceOf(told, c, tunes[IDLE]);
                if (s >= 0) {
                    int read = told.pagesIn(c, s);
                    int had = read * told.givenOn(s, day);
                    liking[c] = likingBehind(told, tunes, c, s);
                    pages[c] += read;
                    stars[c] += had;
                    pagesOfAll += read;
                    starsOfAll += had;
                }
            }
            worth = worthBehind(told, tunes, starsOfAll);
            day++;
            return pagesOfAll;
        }

        private int likingBehind(Sheet told, int[] tunes, int c, int s) {
            int read = told.pagesIn(c, s);
            int behind = liking[c];
            if (read > 0) behind += tunes[GROW];
            if (told.told) {
                int starry = starsFor(told, c, s);
                int want = wantOf(told, c, s);
                if (starry > 0 && want > 0) behind -= tunes[BOUGHT] * starry / want;
            } else if (read * told.givenOn(s, day) > 0) {
                behind += tunes[PRAISE];
            }
            return Math.max(0, Math.min(MOST_LIKING, behind));
        }

        private int worthBehind(Sheet told, int[] tunes, int starsOfAll) {
            int behind = worth;
            if (told.children > 0) behind -= tunes[WEAR] * starsOfAll / (10 * told.children);
            if (told.givesNothing(day)) behind += tunes[MEND];
            return Math.max(0, Math.min(MOST_WORTH, behind));
        }
    }

    /** NOW and THE LOT as they were once. */
    private static final class Image {
        boolean kept = false;
        int chance = 0;
        final Course course = new Course();
    }

    /** Pages for one goal of all: what each child would read, have of reading, and have of the goal. */
    private static final class Jar {
        int goal, children;
        final int[] pages = new int[MOST_CHILDREN];
        final int[] gain = new int[MOST_CHILDREN];
        final int[] prize = new int[MOST_CHILDREN];

        private int pagesOf(int set) {
            int sum = 0;
            for (int c = 0; c < children; c++) {
                if ((set >> c & 1) == 1) sum += pages[c];
            }
            return sum;
        }

        private int hasBy(int set, int c) {
            int own = (set >> c & 1) == 1 ? gain[c] : 0;
            return pagesOf(set) >= goal ? own + prize[c] : own;
        }

        boolean isRest(int set) {
            for (int c = 0; c < children; c++) {
                if (hasBy(set ^ 1 << c, c) > hasBy(set, c)) return false;
            }
            return true;
        }

        int blamedFor(int set) {
            int read = pagesOf(set);
            if (read >= goal) return NONE;
            for (int c = 0; c < children; c++) {
                if ((set >> c & 1) == 0 && read + pages[c] >= goal) return c;
            }
            return NONE;
        }
    }

    /** Trials of stars elsewhere, each of a sort of three bits. */
    private static final class Trials {
        private static final int ALL = 255;
        // For each of the three bits: the sorts that have it, as bits.
        private static final int[] SORTS_WITH = {0xAA, 0xCC, 0xF0};

        int many = 0;
        final int[] sort = new int[MOST_TRIALS];
        final int[] came = new int[MOST_TRIALS];

        boolean note(int itsSort, int itsCame) {
            if (many >= MOST_TRIALS) return false;
            sort[many] = itsSort;
            came[many] = itsCame;
            many++;
            return true;
        }

        int manyOf(int sorts) {
            int found = 0;
            for (int i = 0; i < many; i++) {
                if ((sorts >> sort[i] & 1) == 1) found++;
            }
            return found;
        }

        private int sumOf(int sorts) {
            int sum = 0;
            for (int i = 0; i < many; i++) {
                if ((sorts >> sort[i] & 1) == 1) sum += came[i];
            }
            return sum;
        }

        /** The mean of some sorts in least terms, its upper number (0) or its lower one (1); NO. */
        int meanOf(int sorts, int what) {
            int upper = sumOf(sorts), lower = manyOf(sorts);
            if (lower == 0) return NO;
            int shared = 1;
            for (int d = 2; d <= lower; d++) {
                if (upper % d == 0 && lower % d == 0) shared = d;
            }
            return (what == 0 ? upper : lower) / shared;
        }

        int farthestBit() {
            int farthest = NONE, farUpper = 0, farLower = 1;
            for (int bit = 0; bit < SORTS_WITH.length; bit++) {
                int with = SORTS_WITH[bit], without = ALL ^ with;
                int manyWith = manyOf(with), manyWithout = manyOf(without);
                if (manyWith > 0 && manyWithout > 0) {
                    int upper = Math.abs(sumOf(with) * manyWithout - sumOf(without) * manyWith);
                    int lower = manyWith * manyWithout;
                    if (farthest == NONE || upper * farLower > farUpper * lower) {
                        farthest = bit;
                        farUpper = upper;
                        farLower = lower;
                    }
                }
            }
            return farthest;
        }
    }

    /** THE TEXT, the tokens it is cut into, and what they tell. */
    private static final class Reader {
        // A token is its number, or below 0 one of these.
        private static final int CHILD = -1, BOOK = -2, PLAN = -3, AFTER = -4, THIN = -5, PAY = -6;
        private static final int STOP = -7, END = -8, WRONG = -9;
        private static final int MOST_NUMBER = 100;

        int length = 0;
        final int[] text = new int[MOST_TEXT];
        final Sheet draft = new Sheet();
        private final int[] token = new int[MOST_TEXT + 1];
        private final int[] place = new int[MOST_TEXT + 1];
        private int at;
        private boolean planned;

        boolean hear(long v, int n) {
            if (length + n > MOST_TEXT) return false;
            for (int i = n - 1; i >= 0; i--) {
                text[length] = (int) (v >>> 8 * i) & 255;
                length++;
            }
            return true;
        }

        /** Reads THE TEXT into the draft: how many items; -1, if there is a fault. */
        int readItems() {
            cut();
            draft.wipe();
            planned = false;
            at = 0;
            for (int items = 0; items <= MOST_TEXT; items++) {
                if (seen() == END) return items;
                if (!readItem() || !readWord(STOP)) return -1;
            }
            return -1;
        }

        /** Where reading came to a halt: the first byte of the first token that can't stand there. */
        int fault() {
            return at < place.length ? place[at] : length;
        }

        private void cut() {
            int tokens = 0, next = 0;
            for (int i = 0; i < length; i++) {
                if (i >= next && text[i] != ' ') {
                    next = rowEnd(i);
                    token[tokens] = tokenOf(i, next);
                    place[tokens] = i;
                    tokens++;
                }
            }
            token[tokens] = END;
            place[tokens] = length;
        }

        private static boolean isLetter(int sign) {
            return sign >= 'a' && sign <= 'z';
        }

        private static boolean isDigit(int sign) {
            return sign >= '0' && sign <= '9';
        }

        /** Where the row of letters or of digits ends that begins here; any other byte stands alone. */
        private int rowEnd(int start) {
            boolean letters = isLetter(text[start]), digits = isDigit(text[start]);
            int i = start + 1;
            while (i < length && (letters && isLetter(text[i]) || digits && isDigit(text[i]))) i++;
            return i;
        }

        private int tokenOf(int start, int end) {
            if (text[start] == ';') return STOP;
            if (isDigit(text[start])) return numberOf(start, end);
            if (spells(start, end, "child")) return CHILD;
            if (spells(start, end, "book")) return BOOK;
            if (spells(start, end, "plan")) return PLAN;
            if (spells(start, end, "after")) return AFTER;
            if (spells(start, end, "thin")) return THIN;
            if (spells(start, end, "pay")) return PAY;
            return WRONG;
        }

        private int numberOf(int start, int end) {
            if (end - start > 3 || text[start] == '0' && end - start > 1) return WRONG;
            int number = 0;
            for (int i = start; i < end; i++) number = 10 * number + text[i] - '0';
            return number > MOST_NUMBER ? WRONG : number;
        }

        private boolean spells(int start, int end, String word) {
            if (end - start != word.length()) return false;
            for (int i = 0; i < word.length(); i++) {
                if (text[start + i] != word.charAt(i)) return false;
            }
            return true;
        }

        private int seen() {
            return at < token.length ? token[at] : END;
        }

        /** The number that stands here, if it is within these; else it is not passed by, and -1. */
        private int readNumber(int least, int most) {
            int number = seen();
            if (!within(number, least, most)) return -1;
            at++;
            return number;
        }

        private boolean readWord(int word) {
            if (seen() != word) return false;
            at++;
            return true;
        }

        private boolean readItem() {
            switch (seen()) {
                case CHILD: return draft.children < MOST_CHILDREN && readChild();
                case BOOK: return draft.sorts < MOST_SORTS && readBook();
                case PLAN: return !planned && readPlan();
                case PAY: return readPay();
                default: return false;
            }
        }

        private boolean readChild() {
            at++;
            int liking = readNumber(0, MOST_LIKING);
            if (liking < 0) return false;
            int able = readNumber(1, 9);
            if (able < 0) return false;
            int take = readNumber(0, 9);
            if (take < 0) return false;
            draft.addChild(liking, able, take);
            return true;
        }

        private boolean readBook() {
            at++;
            int hard = readNumber(1, 9);
            if (hard < 0) return false;
            int joy = readNumber(0, 9);
            if (joy < 0) return false;
            draft.addSort(hard, joy);
            return true;
        }

        private boolean readPlan() {
            at++;
            int from = readNumber(0, LAST_DAY);
            if (from < 0) return false;
            int until = readNumber(from, LAST_DAY);
            if (until < 0) return false;
            boolean told = !readWord(AFTER);
            int thin = readWord(THIN) ? readNumber(0, MOST_THIN) : 0;
            if (thin < 0) return false;
            draft.schedule(from, until, told, thin);
            planned = true;
            return true;
        }

        private boolean readPay() {
            at++;
            int sort = readNumber(0, draft.sorts - 1);
            if (sort < 0) return false;
            int pay = readNumber(0, MOST_PAY);
            if (pay < 0) return false;
            draft.pay[sort] = pay;
            return true;
        }
    }
}
