import java.util.function.IntUnaryOperator;

/** Edges of what the document says under 4 TRIALS; above each method stands the sentence that it asks. */
final class EdgesOfTrialsTest {
    private static final int NO = StarChart.NO, NONE = StarChart.NONE;

    public static void main(String[] args) {
        thirtyTrials();
        eachSort();
        meanOfNone();
        leastTerms();
        partsOfSeveral();
        partsOfNone();
        partsOfMeans();
        aheadOfOwn();
        lotWraps();
        oddDraws();
        drawsInOrder();
        unpaidHaveStars();
        halvesAtTheEnds();
        tracesOfKinds();
        ratesBelowNothing();
        imagesOfNow();
        imagesOfEight();
        imagesAtTheEnds();
        imagesAreGone();
        stayWhenReadAnew();
        Due.close("EdgesOfTrialsTest");
    }

    private static StarChart with(int[]... trials) {
        StarChart x = new StarChart();
        for (int[] row : trials) x.trial(row[0], row[1]);
        return x;
    }

    private static int[][] times(int many, IntUnaryOperator sort, IntUnaryOperator came) {
        int[][] rows = new int[many][];
        for (int i = 0; i < many; i++) rows[i] = new int[] {sort.applyAsInt(i), came.applyAsInt(i)};
        return rows;
    }

    private static void joined(StarChart x, int sorts, int upper, int lower) {
        Due.is("joined(" + sorts + ", 0)", x.joined(sorts, 0), upper);
        Due.is("joined(" + sorts + ", 1)", x.joined(sorts, 1), lower);
    }

    private static void ahead(StarChart x, int sort, int upper, int lower) {
        Due.is("ahead(" + sort + ", 0)", x.ahead(sort, 0), upper);
        Due.is("ahead(" + sort + ", 1)", x.ahead(sort, 1), lower);
    }

    // TRIALS (30 at most): how many there are; FULL.
    private static void thirtyTrials() {
        StarChart x = new StarChart();
        for (int i = 1; i <= 30; i++) Due.is("trial " + i, x.trial(7 - i % 8, i == 30 ? 99 : -99), i);
        Due.is("a 31st", x.trial(0, 50), StarChart.FULL);
        Due.is("thirty", x.count(2), 30);
        // 29 times 99 below, once above: 2772 by 30.
        joined(x, 255, -462, 5);
        Due.is("again", x.trial(0, 50), StarChart.FULL);
    }

    // A TRIAL (sort 0 .. 7), what came (-99 .. 99); JOINED of some sorts (bits of sorts 0 .. 7; 0 .. 255).
    private static void eachSort() {
        int[] came = {-99, -98, -1, 0, 1, 2, 98, 99};
        for (int sort = 0; sort < 8; sort++) {
            for (int c : came) {
                StarChart x = with(new int[] {sort, c});
                joined(x, 1 << sort, c, 1);
                joined(x, 255, c, 1);
                joined(x, 255 - (1 << sort), NO, NO);
                ahead(x, sort, c, 1);
                ahead(x, 7 - sort, c, 1);
            }
        }
        StarChart x = with(times(8, i -> i, i -> 1 << i - (i > 6 ? 1 : 0)));
        for (int sorts = 1; sorts < 256; sorts++) {
            int sum = (sorts & 127) + (sorts > 127 ? 64 : 0), many = Integer.bitCount(sorts);
            Due.is("joined(" + sorts + ")", (long) x.joined(sorts, 0) * many, (long) sum * x.joined(sorts, 1));
        }
        joined(x, 0, NO, NO);
        joined(x, 256, NO, NO);
        joined(x, -1, NO, NO);
    }

    // NO: BAD, or there are none (NO is what none is, where a number may be below 0).
    private static void meanOfNone() {
        StarChart x = new StarChart();
        for (int sorts = 0; sorts < 256; sorts++) joined(x, sorts, NO, NO);
        for (int sort = 0; sort < 8; sort++) ahead(x, sort, NO, NO);
        StarChart y = with(new int[] {3, 7});
        for (int sorts = 0; sorts < 256; sorts++) {
            if ((sorts & 8) == 0) joined(y, sorts, NO, NO);
            else joined(y, sorts, 7, 1);
        }
    }

    // The mean: a fraction: upper, lower number, in least terms.
    private static void leastTerms() {
        joined(with(times(30, i -> 0, i -> i == 0 ? 1 : 0)), 1, 1, 30);
        joined(with(times(30, i -> 0, i -> i == 0 ? -1 : 0)), 1, -1, 30);
        joined(with(times(30, i -> 0, i -> i == 0 ? 20 : 0)), 1, 2, 3);
        joined(with(times(30, i -> 0, i -> i == 0 ? -18 : 0)), 1, -3, 5);
        joined(with(times(30, i -> 0, i -> 0)), 1, 0, 1);
        joined(with(times(30, i -> 0, i -> i % 2 == 0 ? 99 : -99)), 1, 0, 1);
        joined(with(times(30, i -> 0, i -> -99)), 1, -99, 1);
        joined(with(times(30, i -> 0, i -> 99)), 1, 99, 1);
        joined(with(times(29, i -> 0, i -> i == 0 ? 29 : 0)), 1, 1, 1);
        joined(with(times(29, i -> 0, i -> i == 0 ? 30 : 0)), 1, 30, 29);
        joined(with(times(4, i -> 0, i -> i == 0 ? 6 : 0)), 1, 3, 2);
        joined(with(times(4, i -> 0, i -> i == 0 ? -6 : 0)), 1, -3, 2);
    }

    private static void parts(int want, int[]... trials) {
        Due.is("parts() of " + trials.length, with(trials).parts(), want);
    }

    private static int[] row(int sort, int came) {
        return new int[] {sort, came};
    }

    // PARTS: by which the two means are farthest apart, of several the first.
    private static void partsOfSeveral() {
        parts(0, row(0, 0), row(7, 9));
        parts(0, row(1, 0), row(6, 9));
        parts(1, row(0, 0), row(6, 9));
        parts(2, row(0, 0), row(4, 9));
        parts(1, row(1, 0), row(7, -9));
        parts(0, row(2, 0), row(7, -9));
        // No gap at all, but both: the first of these.
        parts(0, row(0, 5), row(1, 5), row(2, 5), row(4, 5));
        parts(1, row(0, 5), row(2, 5), row(4, 5));
        parts(2, row(3, -5), row(7, -5));
        // Above and below are as far.
        parts(0, row(1, 3), row(2, -3), row(0, 0), row(3, 0));
        parts(1, row(1, -2), row(2, 3), row(0, -1), row(3, 0));
        parts(1, row(1, 2), row(2, -3), row(0, 1), row(3, 0));
    }

    // NONE: no bit has both.
    private static void partsOfNone() {
        parts(NONE);
        for (int sort = 0; sort < 8; sort++) {
            int only = sort;
            parts(NONE, row(sort, 99));
            parts(NONE, times(30, i -> only, i -> i));
        }
        for (int bit = 0; bit < 3; bit++) {
            for (int sort = 0; sort < 8; sort++) parts(bit, row(sort, 1), row(sort ^ 1 << bit, 1));
        }
    }

    // Of the mean of TRIALS with it and of those without it: of many or few of them.
    private static void partsOfMeans() {
        // TOLD one against three, WELL two against two: 5 less 1, and 4 less 0; then a bit more of the one, of the other.
        parts(0, row(3, 5), row(2, 3), row(0, 0), row(0, 0));
        parts(1, row(3, 5), row(2, 3), row(0, 0), row(0, -1));
        parts(0, row(3, 5), row(2, 3), row(0, 0), row(0, 1));
        // ASKED: a third below 0 against 4; TOLD: 2 against a half below 0.
        parts(2, row(4, 0), row(5, 0), row(4, -1), row(1, 4));
        // ASKED once, 99, against 29 times -99; the others have -99 with them, and less than 99 more without.
        parts(2, times(30, i -> i == 0 ? 4 : i % 4, i -> i == 0 ? 99 : -99));
    }

    // AHEAD of a sort: the mean of its own, else of all.
    private static void aheadOfOwn() {
        StarChart x = with(row(0, -99), row(7, 99), row(7, 98), row(3, 1));
        ahead(x, 0, -99, 1);
        ahead(x, 7, 197, 2);
        ahead(x, 3, 1, 1);
        for (int sort : new int[] {1, 2, 4, 5, 6}) ahead(x, sort, 99, 4);
        x.trial(1, 0);
        ahead(x, 1, 0, 1);
        ahead(x, 2, 99, 5);
        StarChart y = with(times(30, i -> 5, i -> i == 0 ? 3 : 0));
        for (int sort = 0; sort < 8; sort++) ahead(y, sort, 1, 10);
    }

    private static final long[] LOTS = {0, 1, -1, 2, 65535, 65536, 32768, Integer.MAX_VALUE, Integer.MIN_VALUE, 1103515245, 12345,
        -12345, 0x7fff0000, 0x8000ffffL, 123456789, -987654321};

    private static long next(long lot) {
        return (lot * 1103515245L + 12345L) & 0xffffffffL;
    }

    // THE LOT (it goes on truly, child by child, times 1103515245 and 12345, wrapped).
    private static void lotWraps() {
        for (int many = 0; many <= 8; many++) {
            StarChart x = Due.of("child 50 5 5;".repeat(many) + "book 1 5;");
            for (long lot : LOTS) {
                x.lot((int) lot);
                x.halves(0);
                long then = lot;
                for (int c = 0; c < many; c++) then = next(then);
                Due.is("the lot behind " + lot + ", " + many + " drawn", x.lot(0), (int) then);
            }
        }
    }

    // DRAW: its upper 16 bits; those with an odd DRAW are paid.
    private static void oddDraws() {
        StarChart x = Due.of("child 50 5 5;");
        for (long lot : LOTS) {
            x.lot((int) lot);
            long then = lot;
            for (int i = 0; i < 8; i++) {
                then = next(then);
                Due.is("halves(0) of draw " + (then >> 16), x.halves(0), (then >> 16) % 2 == 1 ? 50 : -50);
            }
        }
    }

    // Child by child: LIKINGS on DAY n of those who are paid, added, less those of the others.
    private static void drawsInOrder() {
        StringBuilder text = new StringBuilder();
        int[] likings = {1, 2, 4, 8, 16, 32, 64, 100};
        for (int liking : likings) text.append("child ").append(liking).append(" 1 1;");
        StarChart x = Due.of(text.toString());
        for (long lot : LOTS) {
            x.lot((int) lot);
            long then = lot;
            int sum = 0;
            for (int liking : likings) {
                then = next(then);
                sum += (then >> 16) % 2 == 1 ? liking : -liking;
            }
            Due.is("halves(0) from " + lot, x.halves(0), sum);
        }
    }

    /** A lot whose next draw is odd, or even. */
    private static int lotFor(boolean odd) {
        long lot = 1;
        while ((next(lot) >> 16) % 2 == 1 != odd) lot = next(lot);
        return (int) lot;
    }

    // The others as if TAKE were 0 (they have stars, too).
    private static void unpaidHaveStars() {
        StarChart x = Due.of("child 50 5 5;book 3 5;plan 0 5;pay 0 1;");
        // Paid: 50 stars and 25 joys: 300 by 75 are 4 less, one more. Unpaid: one more.
        x.lot(lotFor(true));
        Due.is("paid", x.halves(1), 47);
        x.lot(lotFor(false));
        Due.is("unpaid", x.halves(1), -51);
        Due.is("take as it was", x.child(0, 2), 5);
        Due.is("nothing went by", x.now(0), 0);
        // Unforeseen it is praised for stars that it doesn't take to.
        StarChart y = Due.of("child 50 5 5;book 3 5;plan 0 5 after;pay 0 1;");
        y.lot(lotFor(false));
        Due.is("praised", y.halves(1), -53);
        // The unpaid's 486 stars wear the worth of the paid's 54, too.
        StarChart z = Due.of("child 50 9 0;child 50 1 1;book 1 3;plan 0 5;pay 0 9;");
        long lot = 1;
        while ((next(lot) >> 16) % 2 == 1 || (next(next(lot)) >> 16) % 2 == 0) lot = next(lot);
        z.lot((int) lot);
        // 54 stars and 15 joys: 324 by 69 are 4 less. Then the worth is 19: 10 stars and 14 joys, 60 by 24 are 2 less.
        Due.is("day 1", z.halves(1), 47 - 51);
        z.lot((int) lot);
        Due.is("day 2", z.halves(2), 46 - 52);
    }

    // HALVES (n 0 .. 99). NO: BAD.
    private static void halvesAtTheEnds() {
        StarChart x = Due.of("child 50 5 0;book 3 5;");
        x.lot(lotFor(true));
        Due.is("day 0", x.halves(0), 50);
        x.lot(lotFor(true));
        Due.is("day 99", x.halves(99), 100);
        x.lot(77);
        Due.is("day 100", x.halves(100), NO);
        Due.is("day -1", x.halves(-1), NO);
        Due.is("nothing drawn", x.lot(-3), 77);
        StarChart y = new StarChart();
        Due.is("nobody", y.halves(99), 0);
        Due.is("nothing drawn of nobody", y.lot(0), 1);
    }

    // RATE: numbers in brackets are added to THE TRACE, 0 at first, as often as rate() asks that body: each once.
    private static void tracesOfKinds() {
        int[] asks = {1, 11, 101, 1011, 11011, 100001};
        for (int kind = 0; kind < 6; kind++) {
            StarChart x = Due.of("child 50 5 5;".repeat(8));
            Due.is("at first", x.trace(), 0);
            for (int c = 0; c < 8; c++) {
                x.rate(kind, c);
                Due.is("kind " + kind + ", " + (c + 1) + " times", x.trace(), (long) asks[kind] * (c + 1));
            }
            for (int other : new int[] {-1, 8}) Due.is("no such child", x.rate(kind, other), NO);
            for (int other : new int[] {-1, 6}) Due.is("no such kind", x.rate(other, 0), NO);
            Due.is("nothing asked", x.trace(), 8L * asks[kind]);
        }
        StarChart y = Due.of("child 50 5 5;");
        for (int i = 0; i < 500; i++) y.rate(5, 0);
        Due.is("500 times", y.trace(), 50000500L);
    }

    // PAY its stars. TOLD up less LIKING NOW. UNFORESEEN up, and LIKING NOW. DOING up, and its pages. WELL twice up. COMMON.
    private static void ratesBelowNothing() {
        StarChart x = Due.of("child 100 9 9;child 0 1 0;book 1 9;plan 0 9 after;pay 0 9;");
        int[][] first = {{0, -100, 100, -100, -200, 100}, {0, 0, 0, 0, 0, 100}};
        for (int c = 0; c < 2; c++) for (int kind = 0; kind < 6; kind++) Due.is("rate at first", x.rate(kind, c), first[c][kind]);
        // 54 pages, 486 stars, a worth of 100 less 1458 by 20.
        x.go(1);
        int[][] then = {{486, 386, 586, 440, 880, 514}, {0, 0, 0, 0, 0, 28}};
        for (int c = 0; c < 2; c++) for (int kind = 0; kind < 6; kind++) Due.is("rate then", x.rate(kind, c), then[c][kind]);
    }

    private static void now(StarChart x, int... want) {
        for (int what = 0; what < want.length; what++) Due.is("now(" + what + ")", x.now(what), want[what]);
    }

    // IMAGES 0, 1 keep NOW (DAY, LIKINGS, WORTH, pages and stars of each), THE LOT; nothing else.
    private static void imagesOfNow() {
        for (int image = 0; image < 2; image++) {
            StarChart x = Due.of("child 50 5 0;book 3 5;plan 0 9 after;pay 0 1;");
            x.go(1);
            x.lot(-5);
            Due.is("kept on", x.keep(image), 1);
            x.go(3);
            x.lot(6);
            x.tune(0, 11);
            x.trial(2, 2);
            x.rate(0, 0);
            Due.type(x, "abc");
            Due.is("the other is none", x.back(1 - image), StarChart.STATE);
            now(x, 4, 88, 62, 40, 40);
            Due.is("back on", x.back(image), 1);
            now(x, 1, 97, 53, 10, 10);
            Due.is("the lot", x.lot(7), -5);
            Due.is("the tune stays", x.tune(0, 10), 11);
            Due.is("the trial stays", x.count(2), 1);
            Due.is("the text stays", x.count(3), 3);
            Due.is("the trace stays", x.trace(), 1);
            x.go(2);
            Due.is("back again", x.back(image), 1);
            now(x, 1, 97, 53, 10, 10);
            Due.is("the lot again", x.lot(7), -5);
            Due.is("the first is kept over", x.keep(image), 1);
            Due.is("back on the same day", x.back(image), 1);
            Due.is("with the later lot", x.lot(0), 7);
        }
    }

    private static void imagesOfEight() {
        StarChart x = Due.of("child 20 6 0;".repeat(7) + "child 50 9 9;" + "book 9 4;".repeat(3) + "book 6 4;plan 0 9 after;pay 0 1;pay 3 1;");
        x.tune(0, 20);
        x.go(2);
        x.keep(0);
        x.go(5);
        x.keep(1);
        x.anew();
        // The eighth of eight: 6 pages and stars of the first sort a day, 3 more liking.
        int[][] want = {{2, 56, 12, 12}, {7, 71, 42, 42}, {2, 56, 12, 12}};
        for (int i = 0; i < 3; i++) {
            Due.is("back", x.back(i % 2), want[i][0]);
            for (int what = 3; what < 6; what++) Due.is("child(7, " + what + ")", x.child(7, what), want[i][what - 2]);
            Due.is("the first", x.child(0, 3), 20);
        }
    }

    // The DAY: 0 and 99, too; as often as it is kept.
    private static void imagesAtTheEnds() {
        StarChart x = Due.of("child 50 5 0;book 3 5;");
        Due.is("day 0", x.keep(0), 0);
        x.go(99);
        Due.is("day 99", x.keep(1), 99);
        Due.is("no more", x.go(1), StarChart.STATE);
        Due.is("back on day 0", x.back(0), 0);
        now(x, 0, 100, 50, 0, 0);
        Due.is("all days again", x.go(99), 99);
        Due.is("the same again", x.back(1), 99);
        now(x, 99, 100, 100, 990, 0);
        Due.is("no more of the image's", x.go(1), StarChart.STATE);
        x.anew();
        Due.is("an image stays behind anew()", x.back(1), 99);
        StarChart y = new StarChart();
        Due.is("of nobody", y.keep(0), 0);
        Due.is("nobody again", y.back(0), 0);
    }

    // Read anew: IMAGES are gone; back: STATE: none was kept.
    private static void imagesAreGone() {
        StarChart x = Due.of("child 50 5 0;book 3 5;");
        x.keep(0);
        x.keep(1);
        Due.type(x, "?");
        x.chart();
        Due.is("not by a fault", x.back(0), 0);
        Due.is("nor the other", x.back(1), 0);
        x.clear();
        x.chart();
        for (int image = 0; image < 2; image++) Due.is("gone", x.back(image), StarChart.STATE);
        x.keep(1);
        Due.is("kept again", x.back(1), 0);
        Due.is("the other is not", x.back(0), StarChart.STATE);
    }

    // Read anew: NOW is as at first; TUNES, TRIALS, THE LOT stay; THE TRACE goes on, as behind back().
    private static void stayWhenReadAnew() {
        StarChart x = Look.rich();
        long trace = x.trace();
        x.clear();
        x.chart();
        now(x, 0, 100, 0, 0, 0);
        for (int what = 0; what < 6; what++) Due.is("tune " + what, x.tune(what, 1), what + 3);
        Due.is("trials", x.count(2), 3);
        Due.is("their parts", x.joined(8, 0), -20);
        Due.is("the lot", x.lot(1), 77);
        Due.is("the trace", x.trace(), trace);
        Due.type(x, "child 9 1 1;");
        x.chart();
        now(x, 0, 100, 9, 0, 0);
        Due.is("rated", x.rate(4, 0), -18);
        Due.is("it goes on", x.trace(), trace + 11011);
        x.keep(0);
        x.rate(0, 0);
        x.back(0);
        Due.is("and on", x.trace(), trace + 11012);
    }
}
