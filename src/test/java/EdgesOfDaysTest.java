/** Edges of what the document says under 2 DAY; above each method stands the sentence that it asks. */
final class EdgesOfDaysTest {
    public static void main(String[] args) {
        lastDay();
        daysLeft();
        givenAtItsEnds();
        givenThin();
        pagesRoundedDown();
        joysRoundedDown();
        starsRoundedDown();
        starsIfTold();
        choiceOfSeveral();
        choiceOfNone();
        choiceOfSortsThatAre();
        growsByAPage();
        starsBuy();
        starIsPraised();
        likingWithin();
        likingWithinBehindAll();
        noneChosen();
        wearRoundedDown();
        wearWithoutChildren();
        wornBehindAll();
        worthWithin();
        mendsWithoutGiven();
        fullClass();
        nobody();
        anewAtTheEnds();
        Due.close("EdgesOfDaysTest");
    }

    // DAY 0 at first, 99 at most. go: n DAYS go by (1 .. 99; as many as are left); STATE: it is DAY 99.
    private static void lastDay() {
        for (int day = 0; day <= 99; day++) {
            StarChart x = new StarChart();
            if (day > 0) Due.is("to day " + day, x.go(day), day);
            Due.is("it is day " + day, x.now(0), day);
            Due.is("all that are left of day " + day, x.go(99), day == 99 ? StarChart.STATE : 99 - day);
            Due.is("the last day", x.now(0), 99);
            Due.is("no more", x.go(1), StarChart.STATE);
            Due.is("it is day 99 still", x.now(0), 99);
        }
    }

    // As many as are left: how many did.
    private static void daysLeft() {
        int[][] rows = {{97, 1, 1}, {97, 2, 2}, {97, 3, 2}, {98, 1, 1}, {98, 2, 1}, {1, 98, 98}, {1, 99, 98}, {2, 98, 97}};
        for (int[] row : rows) {
            StarChart x = Due.of("child 50 1 0;book 6 4;");
            x.go(row[0]);
            Due.is("go(" + row[1] + ") on day " + row[0], x.go(row[1]), row[2]);
            Due.is("the day", x.now(0), row[0] + row[2]);
            Due.is("a page a day", x.child(0, 4), row[0] + row[2]);
        }
    }

    private static void given(String plan, int pay, int fromDay, int... want) {
        StarChart x = Due.of("book 1 1;" + plan + "pay 0 " + pay + ";");
        for (int i = 0; i < want.length; i++) {
            Due.is("given(0, " + (fromDay + i) + ") of '" + plan + "' and " + pay, x.given(0, fromDay + i), want[i]);
        }
    }

    // GIVEN of a SORT on a day: PAY from FROM on till ahead of UNTIL; else 0.
    private static void givenAtItsEnds() {
        given("plan 0 1;", 9, 0, 9, 0, 0);
        given("plan 3 5;", 9, 0, 0, 0, 0, 9, 9, 0, 0);
        given("plan 3 4;", 1, 2, 0, 1, 0);
        given("plan 98 99;", 9, 96, 0, 0, 9, 0);
        given("plan 0 99;", 7, 97, 7, 7, 0);
        given("plan 0 0;", 9, 0, 0, 0);
        given("plan 5 5;", 9, 4, 0, 0, 0);
        given("plan 99 99;", 9, 98, 0, 0);
        given("", 9, 0, 0, 0);
        given("plan 0 99;", 0, 0, 0, 0);
        given("plan 3 5 after;", 9, 2, 0, 9, 9, 0);
    }

    // Then for THIN days PAY times (UNTIL and THIN less the day) by (THIN and 1), rounded down; else 0.
    private static void givenThin() {
        given("plan 3 5 thin 2;", 9, 2, 0, 9, 9, 6, 3, 0, 0);
        given("plan 3 5 thin 1;", 2, 4, 2, 1, 0);
        given("plan 3 5 thin 1;", 1, 4, 1, 0, 0);
        given("plan 3 5 thin 0;", 9, 4, 9, 0, 0);
        given("plan 3 5 after thin 2;", 9, 4, 9, 6, 3, 0);
        given("plan 9 10 thin 20;", 9, 8, 0, 9, 8, 8, 7, 7, 6, 6, 6, 5, 5, 4, 4, 3, 3, 3, 2, 2, 1, 1, 0, 0, 0);
        given("plan 9 10 thin 19;", 9, 24, 2, 1, 1, 0, 0, 0);
        given("plan 98 99 thin 20;", 9, 97, 0, 9, 8);
        given("plan 99 99 thin 1;", 9, 98, 0, 4);
        given("plan 0 0 thin 3;", 4, 0, 3, 2, 1, 0);
    }

    // PAGES of a child in a SORT: 6 times ABLE by HARD, rounded down.
    private static void pagesRoundedDown() {
        int[][] rows = {{1, 1, 6}, {1, 5, 1}, {1, 6, 1}, {1, 7, 0}, {1, 9, 0}, {2, 9, 1}, {3, 9, 2}, {9, 1, 54}, {9, 9, 6}, {8, 7, 6}};
        for (int[] row : rows) {
            StarChart x = Due.of("child 0 " + row[0] + " 0;book " + row[1] + " 0;");
            Due.is("pages of " + row[0] + " in " + row[1], x.want(0, 0, 0), row[2]);
        }
    }

    // JOYS: JOY times LIKING by 10, rounded down.
    private static void joysRoundedDown() {
        int[][] rows = {{9, 1, 0}, {9, 2, 1}, {5, 2, 1}, {1, 9, 0}, {1, 10, 1}, {1, 19, 1}, {9, 100, 90}, {0, 100, 0},
            {9, 0, 0}, {3, 33, 9}};
        for (int[] row : rows) {
            StarChart x = Due.of("child " + row[1] + " 1 0;book 1 " + row[0] + ";");
            Due.is("joys of " + row[0] + " by " + row[1], x.want(0, 0, 1), row[2]);
        }
    }

    // STARS: PAGES times GIVEN times TAKE times WORTH by 100, rounded down.
    private static void starsRoundedDown() {
        StarChart x = Due.of("child 50 1 1;book 6 2;plan 0 99;pay 0 1;");
        x.tune(4, 10);
        Due.is("one star", x.want(0, 0, 2), 1);
        x.go(1);
        Due.is("worth", x.now(1), 99);
        Due.is("not a whole star", x.want(0, 0, 2), 0);
        StarChart y = Due.of("child 100 9 9;book 1 9;plan 0 99;pay 0 9;");
        Due.is("the most", y.want(0, 0, 2), 4374);
        Due.is("wanted the most", y.want(0, 0, 3), 4464);
        y.go(1);
        Due.is("of no worth", y.want(0, 0, 2), 0);
        // 2 stars of 99 are 1, not 0: all is multiplied ahead of the division.
        StarChart z = Due.of("child 50 1 2;book 6 2;plan 0 99;pay 0 1;");
        z.tune(4, 10);
        z.go(1);
        Due.is("two, each of them less", z.want(0, 0, 2), 1);
    }

    // WANT: JOYS, and STARS, if THE PLAN is TOLD.
    private static void starsIfTold() {
        Due.is("told", Due.of("child 50 1 1;book 6 2;plan 0 1;pay 0 1;").want(0, 0, 3), 11);
        Due.is("unforeseen", Due.of("child 50 1 1;book 6 2;plan 0 1 after;pay 0 1;").want(0, 0, 3), 10);
        Due.is("told, not yet", Due.of("child 50 1 1;book 6 2;plan 1 1;pay 0 1;").want(0, 0, 3), 10);
    }

    private static void choice(String text, int idle, int want) {
        StarChart x = Due.of(text);
        x.tune(0, idle);
        Due.is("choice(0) of '" + text + "', idle " + idle, x.choice(0), want);
    }

    // The child's CHOICE: the SORT with the greatest WANT, of several the least.
    private static void choiceOfSeveral() {
        choice("child 50 1 1;book 1 5;book 1 5;book 1 5;book 1 5;", 10, 0);
        choice("child 50 1 1;book 1 3;book 1 5;book 1 5;book 1 5;", 10, 1);
        choice("child 50 1 1;book 1 3;book 1 3;book 1 3;book 1 5;", 10, 3);
        choice("child 50 1 1;book 1 5;book 1 3;book 1 3;book 1 5;", 10, 0);
        choice("child 50 1 1;book 1 3;book 1 6;book 1 5;book 1 6;", 10, 1);
        // 4 and 8 tenths are no whole joy: both are 0.
        choice("child 4 1 1;book 1 1;book 1 2;", 0, 0);
        choice("child 5 1 1;book 1 1;book 1 2;", 0, 1);
        // 10 joys against 10 stars, and against 9 and 11.
        choice("child 50 5 1;book 9 2;book 3 0;plan 0 1;pay 1 1;", 0, 0);
        choice("child 50 5 1;book 3 0;book 9 2;plan 0 1;pay 0 1;", 0, 0);
        choice("child 45 5 1;book 9 2;book 3 0;plan 0 1;pay 1 1;", 0, 1);
        choice("child 55 5 1;book 3 0;book 9 2;plan 0 1;pay 0 1;", 0, 1);
    }

    // None, if that is below IDLE (or there are no SORTS).
    private static void choiceOfNone() {
        choice("child 50 1 1;book 9 2;", 9, 0);
        choice("child 50 1 1;book 9 2;", 10, 0);
        choice("child 50 1 1;book 9 2;", 11, StarChart.NONE);
        choice("child 49 1 1;book 9 2;", 10, StarChart.NONE);
        choice("child 0 1 0;book 9 0;", 0, 0);
        choice("child 0 1 0;book 9 0;", 1, StarChart.NONE);
        choice("child 100 1 1;book 6 9;plan 0 1;pay 0 9;", 99, 0);
        choice("child 100 1 1;book 6 9;plan 0 1;pay 0 8;", 99, StarChart.NONE);
        choice("child 100 9 9;", 0, StarChart.NONE);
    }

    // There are no SORTS but those that THE TEXT told last, and no children.
    private static void choiceOfSortsThatAre() {
        StarChart x = Due.of("child 100 9 9;child 100 9 9;book 1 9;book 1 9;book 1 9;book 1 9;plan 0 99;pay 3 9;pay 1 9;");
        Due.is("of four", x.choice(0), 1);
        x.go(2);
        Due.type(x, "child 50 5 5;book 6 1;");
        x.chart();
        Due.is("5 joys are below idle", x.choice(0), StarChart.NONE);
        x.go(1);
        Due.is("nothing read", x.now(3), 0);
        Due.is("the liking of one", x.now(2), 50);
        Due.type(x, "child 100 9 9;");
        x.chart();
        Due.is("no sorts", x.choice(0), StarChart.NONE);
        x.go(1);
        Due.is("nothing read of none", x.now(3), 0);
    }

    private static int likingAfter(String text, int... tunes) {
        StarChart x = Due.of(text);
        for (int i = 0; i + 1 < tunes.length; i += 2) x.tune(tunes[i], tunes[i + 1]);
        x.go(1);
        return x.child(0, 3);
    }

    // LIKING is GROW more, if it read a page at least.
    private static void growsByAPage() {
        Due.is("a page", likingAfter("child 50 1 0;book 6 4;"), 51);
        Due.is("no page", likingAfter("child 50 1 0;book 7 4;"), 50);
        Due.is("no growth", likingAfter("child 50 1 0;book 6 4;", 1, 0), 50);
        Due.is("the most growth", likingAfter("child 50 1 0;book 6 4;", 1, 9), 59);
    }

    // If THE PLAN is TOLD and STARS of the CHOICE are above 0: BOUGHT times STARS by WANT less, rounded down.
    private static void starsBuy() {
        String paid = "plan 0 1;pay 0 1;";
        Due.is("no star, by no take", likingAfter("child 50 1 0;book 6 0;" + paid, 0, 0), 51);
        Due.is("one star, 6 by 1", likingAfter("child 50 1 1;book 6 0;" + paid, 0, 0), 45);
        Due.is("6 by 6", likingAfter("child 50 1 1;book 6 1;" + paid, 0, 0), 50);
        Due.is("6 by 7", likingAfter("child 60 1 1;book 6 1;" + paid, 0, 0), 61);
        Due.is("12 by 7", likingAfter("child 50 1 2;book 6 1;" + paid, 0, 0), 50);
        Due.is("none bought", likingAfter("child 50 1 1;book 6 0;" + paid, 0, 0, 2, 0), 51);
        Due.is("the most bought", likingAfter("child 50 1 1;book 6 0;" + paid, 0, 0, 2, 20), 31);
        Due.is("20 by 7", likingAfter("child 60 1 1;book 6 1;" + paid, 0, 0, 2, 20), 59);
        Due.is("a star not yet", likingAfter("child 50 1 1;book 6 0;plan 1 1;pay 0 1;", 0, 0), 51);
        Due.is("no page, no star", likingAfter("child 50 1 9;book 7 0;plan 0 1;pay 0 9;", 0, 0), 50);
        Due.is("unforeseen", likingAfter("child 50 1 1;book 6 0;plan 0 1 after;pay 0 1;", 0, 0), 53);
        // Of the CHOICE: what another sort would give buys nothing.
        Due.is("another's stars", likingAfter("child 60 1 1;book 6 9;book 6 0;plan 0 1;pay 1 9;", 0, 0), 61);
    }

    // If it is unforeseen and it had a star: PRAISE more.
    private static void starIsPraised() {
        Due.is("one star", likingAfter("child 50 1 0;book 6 4;plan 0 1 after;pay 0 1;"), 53);
        Due.is("no page, no star", likingAfter("child 50 1 9;book 7 4;plan 0 1 after;pay 0 9;"), 50);
        Due.is("no pay", likingAfter("child 50 1 9;book 6 4;plan 0 1 after;"), 51);
        Due.is("not yet", likingAfter("child 50 1 9;book 6 4;plan 1 2 after;pay 0 1;"), 51);
        Due.is("a thin day, 1 by 2", likingAfter("child 50 1 9;book 6 4;plan 0 0 after thin 1;pay 0 1;"), 51);
        Due.is("a thin day, 2 by 2", likingAfter("child 50 1 9;book 6 4;plan 0 0 after thin 1;pay 0 2;"), 53);
        Due.is("of another sort", likingAfter("child 50 1 9;book 6 4;book 6 3;plan 0 1 after;pay 1 9;"), 51);
        Due.is("no praise", likingAfter("child 50 1 0;book 6 4;plan 0 1 after;pay 0 1;", 3, 0), 51);
        Due.is("the most praise", likingAfter("child 50 1 0;book 6 4;plan 0 1 after;pay 0 1;", 3, 9), 60);
        Due.is("told", likingAfter("child 50 1 0;book 6 4;plan 0 1;pay 0 1;"), 51);
    }

    // LIKING (0 .. 100): 0 .. 100 then.
    private static void likingWithin() {
        int[][] grown = {{98, 99}, {99, 100}, {100, 100}};
        for (int[] row : grown) Due.is("grown " + row[0], likingAfter("child " + row[0] + " 1 0;book 6 4;"), row[1]);
        int[][] praised = {{96, 99}, {97, 100}, {98, 100}, {100, 100}};
        for (int[] row : praised) {
            Due.is("praised " + row[0], likingAfter("child " + row[0] + " 1 0;book 6 4;plan 0 1 after;pay 0 1;"), row[1]);
        }
        int[][] bought = {{0, 0}, {1, 0}, {4, 0}, {5, 0}, {6, 1}, {7, 2}, {100, 95}};
        for (int[] row : bought) {
            Due.is("bought " + row[0], likingAfter("child " + row[0] + " 1 1;book 6 0;plan 0 1;pay 0 1;", 0, 0), row[1]);
        }
    }

    // Then, and not ahead of what is less.
    private static void likingWithinBehindAll() {
        String text = " 1 1;book 6 0;plan 0 1;pay 0 1;";
        Due.is("9 more and 6 less of 0", likingAfter("child 0" + text, 0, 0, 1, 9), 3);
        Due.is("9 more and 6 less of 100", likingAfter("child 100" + text, 0, 0, 1, 9), 100);
        Due.is("6 more and 6 less of 100", likingAfter("child 100" + text, 0, 0, 1, 6), 100);
        Due.is("5 more and 6 less of 100", likingAfter("child 100" + text, 0, 0, 1, 5), 99);
        Due.is("5 more and 6 less of 0", likingAfter("child 0" + text, 0, 0, 1, 5), 0);
        Due.is("7 more and 6 less of 0", likingAfter("child 0" + text, 0, 0, 1, 7), 1);
    }

    // CHOICE: none: it reads nothing.
    private static void noneChosen() {
        StarChart x = Due.of("child 24 6 5;child 25 6 5;book 2 4;plan 0 9 after;pay 0 9;");
        x.go(1);
        int[][] want = {{24, 0, 0}, {28, 18, 162}};
        for (int c = 0; c < 2; c++) {
            for (int i = 0; i < 3; i++) Due.is("child(" + c + ", " + (3 + i) + ")", x.child(c, 3 + i), want[c][i]);
        }
    }

    private static int worthAfter(String text, int... tunes) {
        StarChart x = Due.of(text);
        for (int i = 0; i + 1 < tunes.length; i += 2) x.tune(tunes[i], tunes[i + 1]);
        x.go(1);
        return x.now(1);
    }

    // WORTH is less by WEAR times all stars of that day by (10 times how many children), rounded down.
    private static void wearRoundedDown() {
        String paid = "plan 0 1;pay 0 1;", idle = "child 0 1 0;";
        Due.is("3 stars, 9 by 10", worthAfter("child 50 1 0;book 2 4;" + paid), 100);
        Due.is("4 stars, 12 by 10", worthAfter("child 50 2 0;book 3 4;" + paid), 99);
        Due.is("6 stars, 18 by 10", worthAfter("child 50 2 0;book 2 4;" + paid), 99);
        Due.is("7 stars, 21 by 10", worthAfter("child 50 7 0;book 6 4;" + paid), 98);
        Due.is("6 stars, 18 by 20", worthAfter("child 50 2 0;" + idle + "book 2 4;" + paid), 100);
        Due.is("7 stars, 21 by 20", worthAfter("child 50 7 0;" + idle + "book 6 4;" + paid), 99);
        Due.is("26 stars, 78 by 80", worthAfter("child 50 9 0;child 50 8 0;child 50 9 0;" + idle.repeat(5) + "book 6 4;" + paid), 100);
        Due.is("27 stars, 81 by 80", worthAfter("child 50 9 0;".repeat(3) + idle.repeat(5) + "book 6 4;" + paid), 99);
        Due.is("no wear", worthAfter("child 50 9 0;book 1 4;plan 0 1;pay 0 9;", 4, 0), 100);
        Due.is("one star, 10 by 10", worthAfter("child 50 1 0;book 6 4;" + paid, 4, 10), 99);
        Due.is("one star, 9 by 10", worthAfter("child 50 1 0;book 6 4;" + paid, 4, 9), 100);
        Due.is("unforeseen, 12 by 10", worthAfter("child 50 2 0;book 3 4;plan 0 1 after;pay 0 1;"), 99);
    }

    // Nothing without CHILDREN.
    private static void wearWithoutChildren() {
        StarChart x = Due.of("book 1 9;book 1 9;plan 0 99 thin 20;pay 0 9;pay 1 9;");
        x.tune(4, 20);
        for (int day = 1; day <= 99; day++) {
            x.go(1);
            Due.is("worth of day " + day, x.now(1), 100);
        }
    }

    // Each child by itself; behind all: WORTH is less - so all choose by the WORTH of the day's begin.
    private static void wornBehindAll() {
        StarChart x = Due.of("child 50 9 0;child 50 1 1;book 1 0;plan 0 9;pay 0 9;");
        x.tune(0, 10);
        x.tune(4, 20);
        Due.is("the first chooses nothing", x.choice(0), StarChart.NONE);
        StarChart y = Due.of("child 50 9 9;child 50 1 1;book 1 0;plan 0 9;pay 0 9;");
        y.tune(4, 20);
        y.go(1);
        Due.is("worn away", y.now(1), 0);
        Due.is("the second read all the same", y.child(1, 4), 6);
        Due.is("and had stars", y.child(1, 5), 54);
        Due.is("and sold liking", y.child(1, 3), 45);
        y.go(1);
        Due.is("not the day after", y.child(1, 4), 6);
    }

    // WORTH (0 .. 100).
    private static void worthWithin() {
        String ten = "child 50 5 0;book 3 4;plan 0 1;pay 0 ";
        Due.is("50 stars, 95 less", worthAfter(ten + "5;", 4, 19), 5);
        Due.is("50 stars, 100 less", worthAfter(ten + "5;", 4, 20), 0);
        Due.is("60 stars, 102 less", worthAfter(ten + "6;", 4, 17), 0);
        Due.is("90 stars, 99 less", worthAfter(ten + "9;", 4, 11), 1);
        StarChart x = Due.of(ten + "9;");
        x.tune(4, 20);
        x.go(1);
        x.tune(5, 9);
        for (int day = 2; day <= 14; day++) {
            x.go(1);
            Due.is("worth of day " + day, x.now(1), Math.min(100, 9 * (day - 1)));
        }
        // 10 stars, 3 less: then 98, 99, 100, 100.
        StarChart y = Due.of(ten + "1;");
        int[] want = {97, 98, 99, 100, 100};
        for (int i = 0; i < want.length; i++) {
            y.go(1);
            Due.is("worth of day " + (i + 1), y.now(1), want[i]);
        }
        Due.is("no mending", worthAfter("child 50 5 0;book 3 4;", 5, 0), 100);
    }

    private static void worths(String text, int... want) {
        StarChart x = Due.of(text);
        for (int i = 0; i < want.length; i++) {
            x.go(1);
            Due.is("worth of day " + (i + 1) + " of '" + text + "'", x.now(1), want[i]);
        }
    }

    // If GIVEN is 0 of all SORTS that day, WORTH is MEND more.
    private static void mendsWithoutGiven() {
        String books = "child 50 2 0;book 3 4;book 9 1;book 9 1;book 9 1;", plan = "plan 0 1 thin 2;pay 0 1;";
        worths(books + plan, 99, 100, 100);
        // 3 by 3 of the last sort is 2, 1 on the thin days: it is read by nobody, and hinders all the same.
        worths(books + plan + "pay 3 3;", 99, 99, 99, 100, 100);
        worths(books + plan + "pay 2 2;", 99, 99, 100, 100);
        worths(books + "plan 0 2;pay 0 1;", 99, 98, 99, 100, 100);
        worths(books + "plan 1 2;pay 0 1;", 100, 99, 100);
        // No star is had, but stars are given: no mending either.
        worths("child 50 7 0;book 6 4;book 9 0;plan 0 9;pay 0 1;", 98, 96, 94);
        worths("child 0 7 0;book 6 4;plan 0 9;pay 0 1;", 100, 100);
    }

    // CHILDREN (8 at most), SORTS (4 at most): the eighth child and the fourth sort are as the others.
    private static void fullClass() {
        StarChart x = Due.of("child 20 6 0;".repeat(7) + "child 25 9 9;" + "book 9 1;".repeat(3) + "book 6 4;plan 1 3;pay 3 1;");
        for (int c = 0; c < 7; c++) Due.is("choice(" + c + ")", x.choice(c), StarChart.NONE);
        Due.is("10 joys of the last", x.choice(7), 3);
        // Day 0: 9 pages. Then 81 stars and 10 joys (9 the second time) buy 6 times 81 by 91, 90: 5 each.
        int[][] want = {{26, 9, 0}, {22, 18, 9}, {18, 27, 18}, {18, 27, 18}};
        for (int[] row : want) {
            x.go(1);
            for (int i = 0; i < 3; i++) Due.is("child(7, " + (3 + i) + ") on day " + x.now(0), x.child(7, 3 + i), row[i]);
            for (int i = 0; i < 3; i++) Due.is("now(" + (2 + i) + ")", x.now(2 + i), row[i] + (i == 0 ? 140 : 0));
            Due.is("27 by 80 is no wear", x.now(1), 100);
        }
        Due.is("the first", x.child(0, 3), 20);
    }

    // CHILDREN and SORTS: none, too.
    private static void nobody() {
        StarChart x = new StarChart();
        Due.is("all days", x.go(99), 99);
        int[] want = {99, 100, 0, 0, 0};
        for (int what = 0; what < 5; what++) Due.is("now(" + what + ")", x.now(what), want[what]);
        StarChart y = Due.of("child 50 5 5;plan 0 99;");
        y.go(99);
        int[] then = {99, 100, 50, 0, 0};
        for (int what = 0; what < 5; what++) Due.is("now(" + what + ") without sorts", y.now(what), then[what]);
    }

    // anew: NOW is as at first: the DAY it was.
    private static void anewAtTheEnds() {
        StarChart x = Due.of("child 50 5 0;".repeat(8) + "book 3 4;plan 0 9;pay 0 9;");
        for (int days : new int[] {0, 1, 98, 99}) {
            if (days > 0) x.go(days);
            Due.is("anew() on day " + days, x.anew(), days);
            int[] want = {0, 100, 400, 0, 0};
            for (int what = 0; what < 5; what++) Due.is("now(" + what + ")", x.now(what), want[what]);
            for (int c = 0; c < 8; c++) Due.is("liking of " + c, x.child(c, 3), 50);
        }
        Due.is("again", x.anew(), 0);
        Due.is("nobody", new StarChart().anew(), 0);
        // NOW alone: what is no part of it stays.
        StarChart y = Look.rich();
        long trace = y.trace();
        Due.is("anew() on day 3", y.anew(), 3);
        Due.is("the trace stays", y.trace(), trace);
        Due.is("the lot stays", y.lot(0), 77);
        Due.is("a tune stays", y.tune(0, 0), 3);
        Due.is("trials stay", y.count(2), 3);
        Due.is("the text stays", y.count(3), 30);
        Due.is("an image stays", y.back(0), 2);
    }
}
