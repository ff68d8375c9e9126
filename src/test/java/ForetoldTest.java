/** Promises 15 to 21: terms, ends, the best plan, the line, the ending, the easy books, who stays. */
final class ForetoldTest {
    private static final String TWO = "child 60 6 5;child 20 3 2;book 2 4;book 9 8;plan 1 3 thin 1;pay 0 2;";

    public static void main(String[] args) {
        terms();
        termEdges();
        ends();
        best();
        bestOfSeveral();
        lines();
        lineAlone();
        endings();
        easy();
        stays();
        nothingChanges();
        nobody();
        Due.close("ForetoldTest");
    }

    private static void terms() {
        StarChart x = Due.of(TWO);
        Due.is("during", x.term(0), 54);
        Due.is("after", x.term(1), 28);
        Due.is("without", x.term(2), 42);
        Due.is("what 3", x.term(3), StarChart.BAD);
        Due.is("what -1", x.term(-1), StarChart.BAD);
        x.go(50);
        Due.is("from day 0", x.term(0), 54);
        x.tune(0, 0);
        // The second reads on then, of its 12 joys: 2 pages on seven days.
        Due.is("by the tunes", x.term(1), 42);
    }

    private static void termEdges() {
        String six = "child 50 6 0;book 6 9;";
        int[][] want = {{90, 95, 30, 24}, {92, 92, 0, 42}, {93, 93, 0, 36}, {98, 98, 0, 6}, {98, 99, 6, 0}, {0, 99, 594, 0}, {0, 0, 0, 42}};
        for (int[] row : want) {
            StarChart x = Due.of(six + "plan " + row[0] + " " + row[1] + ";");
            Due.is("during " + row[0] + " " + row[1], x.term(0), row[2]);
            Due.is("after " + row[0] + " " + row[1], x.term(1), row[3]);
            Due.is("without " + row[0] + " " + row[1], x.term(2), row[3]);
        }
        StarChart y = Due.of(six + "plan 80 85 thin 12;");
        Due.is("two days", y.term(1), 12);
        StarChart z = Due.of(six + "plan 95 99 thin 20;");
        Due.is("no days", z.term(1), 0);
        Due.is("no days", z.term(2), 0);
    }

    private static void ends() {
        StarChart x = Due.of(TWO);
        int[] want = {80, 82, 75, 68, 62, 63, 64};
        for (int n = 0; n < want.length; n++) Due.is("end(" + n + ")", x.end(n), want[n]);
        Due.is("below", x.end(-1), StarChart.BAD);
        Due.is("beyond", x.end(100), StarChart.BAD);
        Due.is("the last", x.end(99), 112);
        x.go(3);
        Due.is("from day 0", x.end(0), 80);
        Due.is("as it is now", x.end(3), x.now(2));
        x.go(96);
        Due.is("as it is then", x.end(99), x.now(2));
    }

    private static void threeOf(StarChart x, int s, int n, int pay, int until, int end) {
        Due.is("best(" + s + ", " + n + ", 0)", x.best(s, n, 0), pay);
        Due.is("best(" + s + ", " + n + ", 1)", x.best(s, n, 1), until);
        Due.is("best(" + s + ", " + n + ", 2)", x.best(s, n, 2), end);
    }

    private static void best() {
        // 9 joys are below idle: without stars it never begins.
        StarChart x = Due.of("child 24 6 5;book 2 4;");
        threeOf(x, 0, 1, 0, 0, 24);
        x.tune(2, 0);
        threeOf(x, 0, 0, 0, 0, 24);
        threeOf(x, 0, 1, 1, 1, 25);
        threeOf(x, 0, 2, 1, 1, 26);
        threeOf(x, 0, 99, 1, 1, 100);
        Due.is("no such sort", x.best(1, 1, 0), StarChart.BAD);
        Due.is("below any sort", x.best(-1, 1, 0), StarChart.BAD);
        Due.is("below any day", x.best(0, -1, 0), StarChart.BAD);
        Due.is("beyond all days", x.best(0, 100, 0), StarChart.BAD);
        Due.is("what 3", x.best(0, 1, 3), StarChart.BAD);
        Due.is("what -1", x.best(0, 1, -1), StarChart.BAD);
    }

    private static void bestOfSeveral() {
        // The other sort has stars enough by the plan, but none in these plans.
        StarChart x = Due.of("child 24 6 5;book 2 4;book 9 0;plan 3 9;pay 1 9;");
        x.tune(2, 0);
        Due.is("ahead of from", x.best(0, 2, 0), StarChart.BAD);
        threeOf(x, 0, 3, 0, 3, 24);
        threeOf(x, 0, 4, 1, 4, 25);
        threeOf(x, 1, 5, 1, 4, 26);
        // Unforeseen, more days with a star are better: each of them praised.
        StarChart y = Due.of("child 50 6 5;book 6 4;plan 2 2 after;pay 0 7;");
        threeOf(y, 0, 5, 1, 5, 61);
        // Thin days praise, too, if enough is paid: 3 * 1 / 2 is 1 on the first day behind.
        StarChart z = Due.of("child 50 6 5;book 6 4;plan 0 0 after thin 1;");
        threeOf(z, 0, 2, 1, 2, 56);
        // It reads the other sort, whose stars don't count here.
        StarChart w = Due.of("child 50 6 5;book 6 4;book 3 9;plan 0 3 after;pay 1 5;");
        threeOf(w, 0, 3, 0, 0, 53);
        threeOf(w, 1, 3, 1, 3, 59);
        // Only 54 stars come up to the 54 joys of a book too hard to read a page of.
        StarChart v = Due.of("child 60 1 1;book 1 0;book 9 9;");
        v.tune(2, 0);
        threeOf(v, 0, 1, 9, 1, 61);
        Due.is("the plan is as it was", z.plan(1), 0);
        Due.is("the pay is as it was", z.book(0, 2), 0);
    }

    private static void lines() {
        StarChart x = Due.of("book 2 4;plan 0 1;pay 0 1;");
        Due.is("on day 0", x.line(6, 5, 0), StarChart.NONE);
        Due.is("1, less what was bought, is less than 1", x.line(6, 5, 1), 1);
        Due.is("no take", x.line(6, 0, 1), StarChart.NONE);
        x.tune(2, 0);
        Due.is("nothing bought", x.line(6, 5, 1), StarChart.NONE);
        // By stars it grows by 2 and sells 2 of it (1, if it has joys besides): no harm, until it is 25 and reads of
        // itself.
        x.tune(1, 2);
        x.tune(2, 2);
        Due.is("who reads without stars", x.line(6, 5, 1), 25);
        Due.is("unforeseen", Due.of("book 2 4;plan 0 1 after;pay 0 1;").line(6, 5, 9), StarChart.NONE);
        // 90 joys and 9 stars come up to an idle 99, and 20 * 9 / 99 are bought.
        StarChart y = Due.of("book 6 9;plan 0 1;pay 0 1;");
        y.tune(0, 99);
        y.tune(1, 0);
        y.tune(2, 20);
        Due.is("the greatest liking alone", y.line(9, 1, 1), 100);
        int[][] bad = {{0, 5, 5}, {10, 5, 5}, {5, -1, 5}, {5, 10, 5}, {5, 5, -1}, {5, 5, 100}};
        for (int[] row : bad) Due.is("line", x.line(row[0], row[1], row[2]), StarChart.BAD);
        int[][] good = {{1, 0, 0}, {9, 9, 0}, {9, 0, 99}};
        for (int[] row : good) Due.is("line", x.line(row[0], row[1], row[2]), StarChart.NONE);
    }

    private static void lineAlone() {
        // Who else is in the class is all one: it is a class of one.
        StarChart x = Due.of("book 2 4;plan 0 9;pay 0 3;");
        StarChart y = Due.of("child 99 9 9;child 99 9 9;child 99 9 9;child 1 1 1;book 2 4;plan 0 9;pay 0 3;");
        for (int take = 0; take <= 9; take++) {
            Due.is("line of take " + take, y.line(4, take, 12), x.line(4, take, 12));
        }
        Due.is("no sorts", Due.of("child 9 9 9;plan 0 9;").line(5, 5, 9), StarChart.NONE);
    }

    private static void endings() {
        StarChart x = Due.of("child 25 6 5;book 6 4;plan 0 1 after;pay 0 9;");
        int[][] want = {{0, 0}, {1, 0}, {2, 1}, {4, 3}, {30, 20}};
        for (int[] row : want) Due.is("ending(" + row[0] + ")", x.ending(row[0]), row[1]);
        Due.is("below", x.ending(-1), StarChart.BAD);
        Due.is("beyond", x.ending(100), StarChart.BAD);
        Due.is("thin as it was", x.plan(3), 0);
        StarChart y = Due.of(TWO);
        Due.is("bought stars are best at an end", y.ending(9), 0);
    }

    private static void easy() {
        StarChart x = Due.of("child 50 6 5;child 50 6 0;child 9 6 0;book 6 9;book 3 2;book 3 8;plan 1 5;pay 1 2;");
        Due.is("no stars yet", x.easy(), 0);
        x.go(1);
        // 12 pages, 2 stars each, 5 times taken: 120 and the joys.
        Due.is("the first of the easiest", x.easy(), 1);
        Due.is("it is sort 1", x.choice(0), 1);
        x.go(4);
        Due.is("no stars any more", x.easy(), 0);
        Due.is("all the easy ones", Due.of("child 50 1 1;child 60 1 1;book 2 9;book 9 8;").easy(), 2);
        Due.is("no sorts", Due.of("child 50 1 1;").easy(), 0);
        Due.is("no children", Due.of("book 1 1;").easy(), 0);
    }

    private static void stays() {
        String one = "child 50 6 5;child 50 6 0;book 6 2;book 3 9;";
        StarChart x = Due.of(one + "plan 2 5;");
        Due.is("10 and 30 a star against 45", x.stays(0, 0), 2);
        Due.is("by itself", x.stays(0, 1), 0);
        Due.is("no take", x.stays(1, 0), StarChart.NONE);
        x.go(4);
        Due.is("as told, from", x.stays(0, 0), 2);
        StarChart y = Due.of(one + "plan 2 5;pay 1 3;");
        Due.is("others as they are", y.stays(0, 0), 8);
        Due.is("not its own as it is", y.stays(0, 1), 0);
        Due.is("half on a thin day", Due.of(one + "plan 2 2 thin 1;").stays(0, 0), 4);
        Due.is("nothing on no day", Due.of(one + "plan 2 2;").stays(0, 0), StarChart.NONE);
        Due.is("9 at most", Due.of("child 60 1 1;book 1 0;book 9 9;plan 0 5;").stays(0, 0), 9);
        Due.is("no 10", Due.of("child 62 1 1;book 1 0;book 9 9;plan 0 5;").stays(0, 0), StarChart.NONE);
        Due.is("unforeseen", Due.of(one + "plan 2 5 after;").stays(0, 0), StarChart.NONE);
        Due.is("equal, the least sort", Due.of("child 25 6 5;book 6 6;book 3 6;plan 0 5;").stays(0, 0), 0);
        Due.is("equal, not the least", Due.of("child 25 6 5;book 6 6;book 3 6;plan 0 5;").stays(0, 1), 1);
        Due.is("no such child", x.stays(2, 0), StarChart.BAD);
        Due.is("below any child", x.stays(-1, 0), StarChart.BAD);
        Due.is("no such sort", x.stays(0, 2), StarChart.BAD);
        Due.is("below any sort", x.stays(0, -1), StarChart.BAD);
    }

    private static void nothingChanges() {
        StarChart x = Due.of(TWO);
        x.lot(5);
        x.go(3);
        int[] was = new int[12];
        int i = 0;
        for (int c = 0; c < 2; c++) for (int what = 0; what < 6; what++) was[i++] = x.child(c, what);
        for (int what = 0; what < 3; what++) {
            x.term(what);
            x.best(0, 20, what);
        }
        x.end(40);
        x.line(5, 5, 30);
        x.ending(30);
        x.easy();
        x.stays(0, 1);
        i = 0;
        for (int c = 0; c < 2; c++) for (int what = 0; what < 6; what++) Due.is("child as it was", x.child(c, what), was[i++]);
        int[] plan = {1, 3, 1, 1};
        for (int what = 0; what < 4; what++) Due.is("plan as it was", x.plan(what), plan[what]);
        Due.is("pay as it was", x.book(0, 2), 2);
        Due.is("no other pay", x.book(1, 2), 0);
        Due.is("day", x.now(0), 3);
        Due.is("worth", x.now(1), 84);
        Due.is("children", x.count(0), 2);
        Due.is("the lot", x.lot(0), 5);
    }

    private static void nobody() {
        StarChart x = Due.of("book 2 4;plan 0 9;pay 0 3;");
        for (int what = 0; what < 3; what++) Due.is("term of nobody", x.term(what), 0);
        Due.is("end of nobody", x.end(50), 0);
        threeOf(x, 0, 20, 0, 0, 0);
        Due.is("ending of nobody", x.ending(20), 0);
    }
}
