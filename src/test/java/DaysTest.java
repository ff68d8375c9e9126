/** Promises 9 to 14: what is given, wanted, chosen; days that go by; NOW; anew. */
final class DaysTest {
    // 18 and 4 pages for the first child, 9 and 2 for the second.
    private static final String TWO = "child 60 6 5;child 20 3 2;book 2 4;book 9 8;";

    public static void main(String[] args) {
        givenByPlan();
        givenThin();
        wants();
        wantsUnforeseen();
        choices();
        toldDays();
        unforeseenDays();
        edgesOfLiking();
        edgesOfWorth();
        mendOnThinDays();
        going();
        nowSums();
        anew();
        Due.close("DaysTest");
    }

    private static void givenByPlan() {
        StarChart x = Due.of("book 2 4;book 3 3;plan 3 6 thin 3;pay 0 9;pay 1 1;");
        int[] first = {0, 0, 0, 9, 9, 9, 6, 4, 2, 0, 0};
        int[] second = {0, 0, 0, 1, 1, 1, 0, 0, 0, 0, 0};
        for (int day = 0; day < first.length; day++) {
            Due.is("given(0, " + day + ")", x.given(0, day), first[day]);
            Due.is("given(1, " + day + ")", x.given(1, day), second[day]);
        }
        Due.is("the last day", x.given(0, 99), 0);
        Due.is("no such sort", x.given(2, 3), StarChart.BAD);
        Due.is("below any sort", x.given(-1, 3), StarChart.BAD);
        Due.is("below any day", x.given(0, -1), StarChart.BAD);
        Due.is("beyond all days", x.given(0, 100), StarChart.BAD);
        Due.is("no sorts", new StarChart().given(0, 0), StarChart.BAD);
    }

    private static void givenThin() {
        StarChart x = Due.of("book 2 4;plan 5 5 thin 1;pay 0 9;");
        Due.is("ahead", x.given(0, 4), 0);
        Due.is("the thin day", x.given(0, 5), 4);
        Due.is("behind", x.given(0, 6), 0);
        StarChart y = Due.of("book 2 4;plan 99 99 thin 20;pay 0 9;");
        Due.is("98", y.given(0, 98), 0);
        Due.is("99", y.given(0, 99), 8);
        StarChart z = Due.of("book 2 4;plan 5 5;pay 0 9;");
        Due.is("never", z.given(0, 5), 0);
        StarChart w = Due.of("book 2 4;pay 0 9;");
        Due.is("no plan", w.given(0, 0), 0);
    }

    private static void wants() {
        StarChart x = Due.of(TWO + "plan 0 3;pay 0 2;");
        int[][][] want = {{{18, 24, 180, 204}, {4, 48, 0, 48}}, {{9, 8, 36, 44}, {2, 16, 0, 16}}};
        for (int c = 0; c < 2; c++) {
            for (int s = 0; s < 2; s++) {
                for (int what = 0; what < 4; what++) {
                    Due.is("want(" + c + ", " + s + ", " + what + ")", x.want(c, s, what), want[c][s][what]);
                }
            }
        }
        Due.is("no such child", x.want(2, 0, 0), StarChart.BAD);
        Due.is("below any child", x.want(-1, 0, 0), StarChart.BAD);
        Due.is("no such sort", x.want(0, 2, 0), StarChart.BAD);
        Due.is("below any sort", x.want(0, -1, 0), StarChart.BAD);
        Due.is("what 4", x.want(0, 0, 4), StarChart.BAD);
        Due.is("what -1", x.want(0, 0, -1), StarChart.BAD);
        Due.is("pages rounded down", Due.of("child 5 1 1;book 9 9;").want(0, 0, 0), 0);
        Due.is("joys rounded down", Due.of("child 5 1 1;book 9 9;").want(0, 0, 1), 4);
    }

    private static void wantsUnforeseen() {
        StarChart x = Due.of(TWO + "plan 0 3 after;pay 0 2;");
        Due.is("stars all the same", x.want(0, 0, 2), 180);
        Due.is("not wanted", x.want(0, 0, 3), 24);
        Due.is("by joys alone", x.choice(0), 1);
        Due.is("the same, told", Due.of(TWO + "plan 0 3;pay 0 2;").choice(0), 0);
    }

    private static void choices() {
        StarChart x = Due.of("child 50 5 5;child 20 5 5;child 19 5 5;book 5 3;book 4 5;book 3 5;");
        Due.is("of several the least", x.choice(0), 1);
        Due.is("no less than idle", x.choice(1), 1);
        Due.is("below idle", x.choice(2), StarChart.NONE);
        Due.is("no such child", x.choice(3), StarChart.BAD);
        Due.is("below any child", x.choice(-1), StarChart.BAD);
        x.tune(0, 25);
        Due.is("idle 25", x.choice(0), 1);
        x.tune(0, 26);
        Due.is("idle 26", x.choice(0), StarChart.NONE);
        x.tune(0, 0);
        Due.is("idle 0", x.choice(2), 1);
        Due.is("no sorts", Due.of("child 50 5 5;").choice(0), StarChart.NONE);
        StarChart y = Due.of("child 0 1 0;book 9 0;");
        y.tune(0, 0);
        Due.is("nothing is no less than nothing", y.choice(0), 0);
    }

    private static void state(StarChart x, int day, int worth, int[] likings, int[] pages, int[] stars) {
        Due.is("day", x.now(0), day);
        Due.is("worth of day " + day, x.now(1), worth);
        for (int c = 0; c < likings.length; c++) {
            Due.is("liking of " + c + " on day " + day, x.child(c, 3), likings[c]);
            Due.is("pages of " + c + " on day " + day, x.child(c, 4), pages[c]);
            Due.is("stars of " + c + " on day " + day, x.child(c, 5), stars[c]);
        }
    }

    private static void toldDays() {
        StarChart x = Due.of(TWO + "plan 1 3 thin 1;pay 0 2;");
        state(x, 0, 100, new int[] {60, 20}, new int[] {0, 0}, new int[] {0, 0});
        Due.is("day 0", x.go(1), 1);
        state(x, 1, 100, new int[] {61, 21}, new int[] {4, 2}, new int[] {0, 0});
        // 6 * 180 / 204 = 5 and 6 * 36 / 44 = 4 less; 3 * 54 / 20 = 8 off the worth.
        x.go(1);
        state(x, 2, 92, new int[] {57, 18}, new int[] {22, 11}, new int[] {36, 18});
        Due.is("stars worn", x.want(0, 0, 2), 165);
        Due.is("stars worn", x.want(1, 0, 2), 33);
        x.go(1);
        state(x, 3, 84, new int[] {53, 15}, new int[] {40, 20}, new int[] {72, 36});
        x.go(1);
        state(x, 4, 80, new int[] {50, 12}, new int[] {58, 29}, new int[] {90, 45});
        Due.is("back to the hard", x.choice(0), 1);
        Due.is("no more", x.choice(1), StarChart.NONE);
        x.go(1);
        state(x, 5, 81, new int[] {51, 12}, new int[] {62, 29}, new int[] {90, 45});
    }

    private static void unforeseenDays() {
        StarChart x = Due.of(TWO + "plan 1 2 after;pay 1 3;");
        x.go(1);
        state(x, 1, 100, new int[] {61, 21}, new int[] {4, 2}, new int[] {0, 0});
        // 12 and 6 stars, 3 * 18 / 20 = 2 off the worth.
        x.go(1);
        state(x, 2, 98, new int[] {64, 24}, new int[] {8, 4}, new int[] {12, 6});
        x.go(1);
        state(x, 3, 99, new int[] {65, 25}, new int[] {12, 6}, new int[] {12, 6});
        // No take at all is no bar: it has stars, and praise with them.
        StarChart y = Due.of("child 50 6 0;book 6 4;plan 0 9 after;pay 0 1;");
        y.go(1);
        state(y, 1, 99, new int[] {53}, new int[] {6}, new int[] {6});
        // No page, no star: neither growth nor praise.
        StarChart z = Due.of("child 50 1 5;book 9 9;plan 0 9 after;pay 0 9;");
        z.go(3);
        state(z, 3, 100, new int[] {50}, new int[] {0}, new int[] {0});
    }

    private static void edgesOfLiking() {
        StarChart x = Due.of("child 3 5 9;child 100 5 0;book 1 1;plan 0 9;pay 0 9;");
        x.go(1);
        Due.is("not below 0", x.child(0, 3), 0);
        Due.is("not above 100", x.child(1, 3), 100);
        // Growth and what was bought count together, ahead of the bounds: 100 and 9 and less 20 * 2430 / 2520.
        StarChart y = Due.of("child 100 5 9;book 1 9;plan 0 9;pay 0 9;");
        y.tune(1, 9);
        y.tune(2, 20);
        y.go(1);
        Due.is("bounds behind all", y.child(0, 3), 90);
        // STARS worn down to nothing buy nothing.
        StarChart z = Due.of("child 50 1 1;book 6 9;plan 0 9;pay 0 1;");
        z.tune(4, 20);
        z.go(1);
        Due.is("worth", z.now(1), 98);
        Due.is("one star bought", z.child(0, 3), 51);
        Due.is("stars of no worth", z.want(0, 0, 2), 0);
        Due.is("no take, nothing bought", growthOf("child 50 5 0;book 1 5;plan 0 9;pay 0 9;"), 1);
        Due.is("no stars, nothing bought", growthOf("child 50 5 9;book 1 5;plan 1 9;pay 0 9;"), 1);
    }

    private static int growthOf(String text) {
        StarChart x = Due.of(text);
        x.go(1);
        return x.now(2) - x.child(0, 0);
    }

    private static void edgesOfWorth() {
        StarChart x = Due.of("child 50 9 0;book 1 9;plan 0 2;pay 0 9;");
        x.go(1);
        Due.is("not below 0", x.now(1), 0);
        x.go(1);
        Due.is("0 it stays", x.now(1), 0);
        x.tune(5, 9);
        x.go(1);
        Due.is("mended", x.now(1), 9);
        x.go(10);
        Due.is("mended more", x.now(1), 99);
        x.go(1);
        Due.is("not above 100", x.now(1), 100);
        // Without children nothing wears; a plan that gives nothing wears nothing.
        StarChart y = Due.of("book 1 9;plan 0 9;pay 0 9;");
        y.go(5);
        Due.is("no children", y.now(1), 100);
        // 7 pages, 7 stars: 3 * 7 / 30 is nothing of three children, 3 * 7 / 10 is 2 of one.
        StarChart z = Due.of("child 50 7 0;child 0 1 0;child 0 1 0;book 6 9;plan 0 9;pay 0 1;");
        z.go(1);
        Due.is("three share it", z.now(1), 100);
        StarChart w = Due.of("child 50 7 0;book 6 9;plan 0 9;pay 0 1;");
        w.go(1);
        Due.is("one alone", w.now(1), 98);
    }

    private static void mendOnThinDays() {
        // A pay of 1 is 0 on each thin day, and so the worth mends; another sort with stars hinders that.
        StarChart x = Due.of("child 50 5 0;book 1 9;plan 0 1 thin 4;pay 0 1;");
        x.go(2);
        Due.is("mends", x.now(1), 92);
        StarChart y = Due.of("child 50 5 0;book 1 9;book 1 1;plan 0 1 thin 4;pay 0 1;pay 1 9;");
        y.go(2);
        Due.is("does not", y.now(1), 91);
    }

    private static void going() {
        StarChart x = Due.of(TWO);
        Due.is("none", x.go(0), StarChart.BAD);
        Due.is("below", x.go(-1), StarChart.BAD);
        Due.is("beyond", x.go(100), StarChart.BAD);
        Due.is("nothing changed", x.now(0), 0);
        Due.is("98", x.go(98), 98);
        Due.is("what is left", x.go(99), 1);
        Due.is("the last", x.now(0), 99);
        Due.is("no more", x.go(1), StarChart.STATE);
        Due.is("BAD ahead of STATE", x.go(0), StarChart.BAD);
        Due.is("BAD ahead of STATE", x.go(100), StarChart.BAD);
        Due.is("pages of 99 days", x.child(0, 4), 396);
        StarChart y = new StarChart();
        Due.is("nobody, all days", y.go(99), 99);
        StarChart z = Due.of(TWO + "plan 1 3 thin 1;pay 0 2;");
        z.go(5);
        state(z, 5, 81, new int[] {51, 12}, new int[] {62, 29}, new int[] {90, 45});
    }

    private static void nowSums() {
        StarChart x = Due.of(TWO + "plan 1 3 thin 1;pay 0 2;");
        x.go(4);
        int[] want = {4, 80, 62, 87, 135};
        for (int what = 0; what < 5; what++) Due.is("now(" + what + ")", x.now(what), want[what]);
        Due.is("what 5", x.now(5), StarChart.BAD);
        Due.is("what -1", x.now(-1), StarChart.BAD);
        // Those of a larger class that was told ahead of it don't count.
        Due.type(x, "child 7 1 1;");
        x.chart();
        Due.is("one alone", x.now(2), 7);
    }

    private static void anew() {
        StarChart x = Due.of(TWO + "plan 1 3 thin 1;pay 0 2;");
        Due.is("day 0", x.anew(), 0);
        x.go(3);
        x.lot(55);
        x.keep(1);
        x.rate(0, 0);
        Due.is("day 3", x.anew(), 3);
        state(x, 0, 100, new int[] {60, 20}, new int[] {0, 0}, new int[] {0, 0});
        Due.is("the lot stays", x.lot(55), 55);
        Due.is("the trace stays", x.trace(), 1);
        Due.is("images stay", x.back(1), 3);
        state(x, 3, 84, new int[] {53, 15}, new int[] {40, 20}, new int[] {72, 36});
        x.anew();
        x.go(99);
        Due.is("day 99", x.anew(), 99);
        Due.is("and on again", x.go(99), 99);
    }
}
