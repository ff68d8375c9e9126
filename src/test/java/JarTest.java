/** Promises 22 to 24: a jar for all, its rests and who is blamed; checks. */
final class JarTest {
    // Without stars the first reads 4 pages (38 joys over idle), the second 2 (6 over), the third, of sort 0, 6 (6 under).
    private static final String THREE =
        "child 60 6 5;child 20 3 2;child 10 2 9;book 2 4;book 9 8;plan 0 9;pay 0 9;";

    public static void main(String[] args) {
        rests();
        restsOfTheUnwilling();
        restsNow();
        restsRefused();
        blamed();
        blamedRefused();
        checks();
        checksByChoice();
        Due.close("JarTest");
    }

    private static void rest(StarChart x, int m, int v, int many, int least) {
        Due.is("rests(" + m + ", " + v + ", 0)", x.rests(m, v, 0), many);
        Due.is("rests(" + m + ", " + v + ", 1)", x.rests(m, v, 1), least);
    }

    private static void rests() {
        StarChart x = Due.of(THREE);
        rest(x, 12, 1, 1, 7);
        rest(x, 12, 0, 1, 3);
        rest(x, 13, 1, 1, 3);
        rest(x, 13, 99, 1, 3);
        rest(x, 6, 1, 1, 3);
        rest(x, 6, 99, 1, 3);
        rest(x, 7, 1, 1, 7);
        rest(x, 1, 99, 1, 3);
        rest(x, 999, 99, 1, 3);
        // 99 stars are 99 joys, no more, and make up for an idle 99, no more.
        StarChart y = Due.of("child 0 6 1;book 2 4;");
        y.tune(0, 99);
        rest(y, 18, 99, 2, 0);
        rest(y, 18, 98, 1, 0);
        // What leaves it as it is does not move it: of no gain, it may read or not.
        rest(Due.of("child 25 6 5;book 2 4;"), 1, 0, 2, 0);
        rest(Due.of("book 2 4;"), 5, 5, 1, 0);
    }

    private static void restsOfTheUnwilling() {
        StarChart x = Due.of(THREE);
        x.tune(0, 99);
        // Now all read of sort 0, 18, 9 and 6 pages, and none of itself.
        rest(x, 33, 99, 2, 0);
        rest(x, 18, 99, 1, 1);
        rest(x, 33, 0, 1, 0);
        rest(x, 34, 99, 1, 0);
        // 27 of two, or 24: the third gets its 891 for nothing.
        rest(x, 27, 99, 2, 0);
        rest(x, 24, 99, 3, 0);
    }

    private static void restsNow() {
        // A day of stars takes the worth to 60: the jar's stars are worth that then.
        StarChart x = Due.of("child 10 1 1;book 1 5;plan 0 1;pay 0 9;");
        x.tune(4, 7);
        x.tune(2, 0);
        rest(x, 6, 5, 2, 0);
        rest(x, 6, 6, 1, 1);
        x.go(1);
        Due.is("worth", x.now(1), 63);
        // 5 joys, 5 below idle: 7 stars are 4 by their worth, 8 are 5, 9 are more.
        rest(x, 6, 7, 1, 0);
        rest(x, 6, 8, 2, 0);
        rest(x, 6, 10, 1, 1);
    }

    private static void restsRefused() {
        StarChart x = Due.of(THREE);
        Due.is("no pages", x.rests(0, 5, 0), StarChart.BAD);
        Due.is("too many pages", x.rests(1000, 5, 0), StarChart.BAD);
        Due.is("below", x.rests(5, -1, 0), StarChart.BAD);
        Due.is("too many stars", x.rests(5, 100, 0), StarChart.BAD);
        Due.is("what 2", x.rests(5, 5, 2), StarChart.BAD);
        Due.is("what -1", x.rests(5, 5, -1), StarChart.BAD);
        StarChart y = Due.of("child 60 6 5;");
        Due.is("no sorts", y.rests(1, 0, 0), StarChart.STATE);
        Due.is("no sorts", y.rests(999, 99, 1), StarChart.STATE);
        Due.is("BAD ahead of STATE", y.rests(0, 0, 0), StarChart.BAD);
        Due.is("BAD ahead of STATE", y.rests(1, 0, 2), StarChart.BAD);
    }

    private static void blamed() {
        StarChart x = Due.of(THREE);
        Due.is("6 and 6", x.blamed(12, 3), 2);
        Due.is("6 and 6 are no 13", x.blamed(13, 3), StarChart.NONE);
        Due.is("it is 6", x.blamed(6, 3), StarChart.NONE);
        Due.is("6 more are 7 at least", x.blamed(7, 3), 2);
        Due.is("all read", x.blamed(12, 7), StarChart.NONE);
        Due.is("all read, in vain", x.blamed(999, 7), StarChart.NONE);
        Due.is("none read", x.blamed(1, 0), 0);
        Due.is("none read", x.blamed(2, 0), 0);
        Due.is("none read", x.blamed(4, 0), 0);
        Due.is("none read", x.blamed(5, 0), 2);
        Due.is("none read", x.blamed(7, 0), StarChart.NONE);
        Due.is("the first reads", x.blamed(6, 1), 1);
        Due.is("the first reads", x.blamed(7, 1), 2);
        Due.is("the others read", x.blamed(9, 6), 0);
    }

    private static void blamedRefused() {
        StarChart x = Due.of(THREE);
        Due.is("no pages", x.blamed(0, 1), StarChart.BAD);
        Due.is("too many pages", x.blamed(1000, 1), StarChart.BAD);
        Due.is("a fourth child", x.blamed(5, 8), StarChart.BAD);
        Due.is("below", x.blamed(5, -1), StarChart.BAD);
        Due.is("far off", x.blamed(5, Integer.MIN_VALUE), StarChart.BAD);
        StarChart y = Due.of("child 60 6 5;");
        Due.is("no sorts", y.blamed(5, 1), StarChart.STATE);
        Due.is("BAD ahead of STATE", y.blamed(5, 2), StarChart.BAD);
        StarChart z = Due.of("book 2 4;");
        Due.is("nobody", z.blamed(5, 0), StarChart.NONE);
        Due.is("nobody is 0", z.blamed(5, 1), StarChart.BAD);
        StarChart w = Due.of("child 60 6 5;".repeat(8) + "book 2 4;");
        Due.is("eight", w.blamed(144, 127), 7);
        Due.is("eight, not the first", w.blamed(144, 254), 0);
        Due.is("a ninth", w.blamed(144, 256), StarChart.BAD);
    }

    private static void checks() {
        StarChart x = Due.of("child 60 6 5;child 20 3 2;book 2 4;book 9 8;plan 1 9;pay 0 2;");
        Due.is("no stars to give", x.checks(0), 0);
        x.go(1);
        // 36 stars and 18: what is due to the one is enough for the other.
        int[][] want = {{36, 5}, {35, 6}, {4, 9}, {3, 10}, {1, 10}, {0, 10}, {99, 3}, {84, 3}, {83, 4}};
        for (int[] row : want) Due.is("checks(" + row[0] + ")", x.checks(row[0]), row[1]);
        Due.is("below", x.checks(-1), StarChart.BAD);
        Due.is("beyond", x.checks(100), StarChart.BAD);
        // The stars themselves count, not what they are worth to whom.
        x.go(1);
        Due.is("worth less", x.checks(36), 5);
    }

    private static void checksByChoice() {
        Due.is("none chosen, no stars", Due.of("child 1 6 0;book 2 4;plan 0 9;pay 0 9;").checks(0), 0);
        Due.is("unforeseen", Due.of("child 60 6 0;book 2 4;plan 0 9 after;pay 0 2;").checks(36), 5);
        Due.is("of the choice alone", Due.of("child 60 6 0;book 2 4;book 9 8;plan 0 9;pay 0 9;").checks(0), 0);
        Due.is("nobody", Due.of("book 2 4;plan 0 9;pay 0 9;").checks(0), 0);
        Due.is("nothing", new StarChart().checks(99), 0);
    }
}
