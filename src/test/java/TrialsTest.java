/** Promises 25 to 30: trials, joined, what parts them, one told ahead; halves by lot. */
final class TrialsTest {
    private static final String TWO = "child 50 5 5;child 50 5 5;book 1 5;plan 0 5;pay 0 9;";

    public static void main(String[] args) {
        trials();
        joined();
        joinedRefused();
        parts();
        partsOfOneSide();
        ahead();
        halves();
        halvesUnforeseen();
        halvesGoOn();
        lot();
        Due.close("TrialsTest");
    }

    private static StarChart with(int[][] trials) {
        StarChart x = new StarChart();
        for (int i = 0; i < trials.length; i++) Due.is("trial", x.trial(trials[i][0], trials[i][1]), i + 1);
        return x;
    }

    private static void fraction(StarChart x, int sorts, int upper, int lower) {
        Due.is("joined(" + sorts + ", 0)", x.joined(sorts, 0), upper);
        Due.is("joined(" + sorts + ", 1)", x.joined(sorts, 1), lower);
    }

    private static void trials() {
        StarChart x = with(new int[][] {{0, -99}, {7, 99}, {3, 0}});
        int[][] bad = {{-1, 0}, {8, 0}, {0, -100}, {0, 100}, {Integer.MIN_VALUE, Integer.MAX_VALUE}};
        for (int[] row : bad) Due.is("a bad trial", x.trial(row[0], row[1]), StarChart.BAD);
        Due.is("three", x.count(2), 3);
        for (int i = 4; i <= 30; i++) Due.is("trial " + i, x.trial(i % 8, i), i);
        Due.is("31", x.trial(0, 0), StarChart.FULL);
        Due.is("BAD ahead of FULL", x.trial(8, 0), StarChart.BAD);
        Due.is("BAD ahead of FULL", x.trial(0, 100), StarChart.BAD);
        Due.is("thirty", x.count(2), 30);
        // 4 .. 30 are 459.
        fraction(x, 255, 153, 10);
    }

    private static void joined() {
        StarChart x = with(new int[][] {{1, 40}, {1, 41}, {2, -7}, {4, -7}, {4, -8}, {5, 3}, {5, -3}, {6, 10}, {6, 10}, {6, 20}, {6, 20}, {7, 99}});
        fraction(x, 2, 81, 2);
        fraction(x, 4, -7, 1);
        fraction(x, 6, 74, 3);
        fraction(x, 16, -15, 2);
        fraction(x, 32, 0, 1);
        fraction(x, 64, 15, 1);
        fraction(x, 128, 99, 1);
        fraction(x, 16 + 32, -15, 4);
        fraction(x, 255, 109, 6);
        fraction(x, 1 + 8, StarChart.NO, StarChart.NO);
        fraction(x, 1 + 2 + 8, 81, 2);
        fraction(with(new int[][] {{0, -1}, {0, -1}, {0, 0}, {0, 0}, {0, 0}, {0, -1}}), 1, -1, 2);
    }

    private static void joinedRefused() {
        StarChart x = with(new int[][] {{0, 5}});
        fraction(x, 0, StarChart.NO, StarChart.NO);
        fraction(x, 256, StarChart.NO, StarChart.NO);
        fraction(x, -1, StarChart.NO, StarChart.NO);
        fraction(x, 257, StarChart.NO, StarChart.NO);
        Due.is("what 2", x.joined(255, 2), StarChart.NO);
        Due.is("what -1", x.joined(255, -1), StarChart.NO);
        fraction(new StarChart(), 255, StarChart.NO, StarChart.NO);
    }

    private static void parts() {
        // TOLD: 20 and -10 apart by 30; WELL: 0 and 10; ASKED: 5 and 5.
        Due.is("told", with(new int[][] {{0, -10}, {1, 30}, {2, -10}, {3, 10}}).parts(), 0);
        Due.is("well", with(new int[][] {{0, 30}, {1, 10}, {2, -10}, {3, -10}}).parts(), 1);
        Due.is("asked", with(new int[][] {{0, 0}, {3, 1}, {4, 50}, {7, 51}}).parts(), 2);
        Due.is("equal: the first", with(new int[][] {{0, 0}, {7, 50}}).parts(), 0);
        Due.is("equal: the first of two", with(new int[][] {{1, 0}, {7, 50}}).parts(), 1);
        Due.is("not apart at all", with(new int[][] {{0, 5}, {3, 5}}).parts(), 0);
        // The means, not the sums: TOLD 30 / 1 and 60 / 3, WELL 51 / 2 and 39 / 2.
        Due.is("means", with(new int[][] {{1, 30}, {0, 20}, {2, 21}, {0, 19}}).parts(), 0);
        // 1 / 3 is more than 3 / 10, and less than 2 / 5.
        Due.is("fractions", with(new int[][] {{0, 0}, {0, 0}, {0, 1}, {2, 0}, {1, 0}}).parts(), 0);
    }

    private static void partsOfOneSide() {
        Due.is("none", new StarChart().parts(), StarChart.NONE);
        Due.is("one", with(new int[][] {{5, 9}}).parts(), StarChart.NONE);
        Due.is("one sort", with(new int[][] {{5, 9}, {5, -9}}).parts(), StarChart.NONE);
        Due.is("asked alone has both", with(new int[][] {{1, 9}, {5, 9}}).parts(), 2);
        Due.is("well alone has both", with(new int[][] {{7, 9}, {5, 9}}).parts(), 1);
    }

    private static void ahead() {
        StarChart x = with(new int[][] {{1, 40}, {1, 41}, {0, 10}, {3, -20}});
        int[][] want = {{1, 81, 2}, {0, 10, 1}, {3, -20, 1}, {2, 71, 4}, {7, 71, 4}};
        for (int[] row : want) {
            Due.is("ahead(" + row[0] + ", 0)", x.ahead(row[0], 0), row[1]);
            Due.is("ahead(" + row[0] + ", 1)", x.ahead(row[0], 1), row[2]);
        }
        Due.is("sort 8", x.ahead(8, 0), StarChart.NO);
        Due.is("sort -1", x.ahead(-1, 0), StarChart.NO);
        Due.is("what 2", x.ahead(0, 2), StarChart.NO);
        Due.is("what -1", x.ahead(0, -1), StarChart.NO);
        Due.is("no trials", new StarChart().ahead(0, 0), StarChart.NO);
        Due.is("no trials", new StarChart().ahead(0, 1), StarChart.NO);
    }

    private static long next(long lot) {
        return (lot * 1103515245L + 12345L) & 0xffffffffL;
    }

    private static boolean odd(long lot) {
        return (lot / 65536 & 1) == 1;
    }

    private static void halves() {
        StarChart x = Due.of(TWO);
        Due.is("below", x.halves(-1), StarChart.NO);
        Due.is("beyond", x.halves(100), StarChart.NO);
        Due.is("no draw for these", x.lot(1), 1);
        boolean[] seen = new boolean[4];
        long lot = 1;
        // 1350 stars and 25 joys: 46 on day 1; unpaid, 51.
        for (int i = 0; i < 40; i++) {
            int sum = 0, which = 0;
            for (int c = 0; c < 2; c++) {
                lot = next(lot);
                sum += odd(lot) ? 46 : -51;
                if (odd(lot)) which |= 1 << c;
            }
            seen[which] = true;
            Due.is("halves(1), time " + i, x.halves(1), sum);
        }
        for (int i = 0; i < 4; i++) Due.yes("both ways for both", seen[i]);
        Due.is("so far", x.lot(1), (int) lot);
        // From 1 the first two draws are even: neither is paid.
        Due.is("on day 0", x.halves(0), -100);
        Due.is("nobody", new StarChart().halves(50), 0);
        x.lot(1);
        x.go(9);
        Due.is("from day 0", x.halves(1), -102);
        Due.is("no take changed", x.child(0, 2), 5);
        Due.is("the day", x.now(0), 9);
    }

    private static void halvesUnforeseen() {
        // Those without pay have stars, too: they are praised, and wear the worth.
        StarChart x = Due.of("child 50 5 5;child 50 5 5;book 1 5;plan 0 5 after;pay 0 9;");
        Due.is("none is paid, all are praised", x.halves(1), -106);
        // From 1 the first two draws are even, the next two odd.
        StarChart y = Due.of("child 1 1 0;child 1 1 0;child 50 5 5;child 90 9 9;book 1 5;plan 0 9;pay 0 2;");
        y.halves(0);
        Due.is("four draws", y.lot(1), (int) next(next(next(next(1)))));
        // The third and the fourth are paid: 60 and 108 stars of theirs take the worth to 88 after a day.
        // Day 0: 600 and 25 buy 5; 1944 and 45 buy 5: 46 and 86. Then 528 and 23, 1710 and 43: 5 and 5 again.
        Due.is("two of four", y.halves(2), 42 + 82 - 2);
    }

    private static void halvesGoOn() {
        StarChart x = Due.of(TWO);
        x.keep(0);
        int first = x.halves(5);
        long lot = next(next(1));
        Due.is("it went on", x.lot((int) lot), (int) lot);
        x.back(0);
        Due.is("the image has the lot", x.halves(5), first);
        x.anew();
        Due.is("anew leaves it", x.lot(1), (int) lot);
    }

    private static void lot() {
        StarChart x = new StarChart();
        Due.is("at first", x.lot(-5), 1);
        Due.is("then", x.lot(Integer.MIN_VALUE), -5);
        Due.is("the least", x.lot(Integer.MAX_VALUE), Integer.MIN_VALUE);
        Due.is("the greatest", x.lot(0), Integer.MAX_VALUE);
        Due.is("none", x.lot(0), 0);
    }
}
