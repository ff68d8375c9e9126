/** Edges of what the document says under 3 FORETOLD; above each method stands the sentence that it asks. */
final class EdgesForetoldTest {
    // Without idleness it likes reading one more each day; of 10 on the second sort is chosen: a page a day on the days
    // 0 .. 9, six a day from day 10 on.
    private static final String STEP = "child 0 1 0;book 6 0;book 1 1;";
    // Seven that never read of themselves (4 pages of sort 0), and an eighth with 10 joys of the fourth sort, 9 pages.
    private static final String FULL = "child 20 6 0;".repeat(7) + "child 25 9 9;" + "book 9 1;".repeat(3) + "book 6 4;";

    public static void main(String[] args) {
        terms();
        termByGiven();
        withoutAllGiven();
        ends();
        fromDayNull();
        bestPays();
        bestUntils();
        bestOfSeveral();
        bestAlone();
        lineLeast();
        lineNone();
        endings();
        easyOfSeveral();
        staysByLeastPay();
        staysOnFrom();
        jarFilled();
        restOrNot();
        restsOfEight();
        jarRoundedDown();
        jarOfNone();
        blamedJust();
        blamedOfEight();
        checksJust();
        fullClass();
        nobody();
        Due.close("EdgesForetoldTest");
    }

    private static StarChart idle(int idle, String text) {
        StarChart x = Due.of(text);
        x.tune(0, idle);
        return x;
    }

    // DURING: PAGES of all on days FROM to ahead of UNTIL; AFTER: on the seven days from UNTIL and THIN on (those ahead
    // of DAY 99 alone); WITHOUT: on these same seven.
    private static void terms() {
        String[] plans = {"0 0", "0 1", "9 9", "9 10", "10 11", "9 11", "0 3", "0 4", "0 9", "0 10", "0 3 thin 1", "0 3 after thin 6",
            "0 0 thin 20", "0 98", "0 99", "98 99", "98 98", "99 99", "92 92", "93 93", "97 97", "79 79 thin 19", "79 79 thin 20",
            "91 92 thin 1", "99 99 thin 20"};
        int[][] want = {{0, 7}, {1, 7}, {0, 37}, {1, 42}, {6, 42}, {7, 42}, {3, 7}, {4, 12}, {9, 37}, {10, 42}, {3, 12}, {3, 37},
            {0, 42}, {538, 6}, {544, 0}, {6, 0}, {0, 6}, {0, 0}, {0, 42}, {0, 36}, {0, 12}, {0, 6}, {0, 0},
            {6, 36}, {0, 0}};
        for (int i = 0; i < plans.length; i++) {
            StarChart x = idle(0, STEP + "plan " + plans[i] + ";");
            Due.is("during " + plans[i], x.term(0), want[i][0]);
            Due.is("after " + plans[i], x.term(1), want[i][1]);
            Due.is("without " + plans[i], x.term(2), want[i][1]);
        }
    }

    // The same by what is GIVEN: on paid days it reads 18 pages, else 4; on the thin day, too.
    private static void termByGiven() {
        String child = "child 60 6 5;book 2 4;book 9 8;";
        String[] plans = {"plan 3 5;pay 0 2;", "plan 3 4;pay 0 2;", "plan 0 1;pay 0 2;", "plan 3 5 thin 1;pay 0 2;",
            "plan 98 99;pay 0 2;", "plan 3 3 thin 1;pay 0 2;", "plan 3 3 thin 1;pay 0 1;"};
        int[][] want = {{36, 28}, {18, 28}, {18, 28}, {36, 28}, {18, 0}, {0, 28}, {0, 28}};
        for (int i = 0; i < plans.length; i++) {
            StarChart x = Due.of(child + plans[i]);
            for (int what = 0; what < 2; what++) Due.is("term(" + what + ") of " + plans[i], x.term(what), want[i][what]);
        }
        StarChart x = Due.of(child + "plan 3 5 thin 1;pay 0 2;");
        int[] pages = {4, 4, 4, 18, 18, 18, 4};
        for (int day = 0; day < pages.length; day++) {
            int was = x.now(3);
            x.go(1);
            Due.is("pages of day " + day, x.now(3) - was, pages[day]);
        }
    }

    // WITHOUT: all GIVEN 0 on all days.
    private static void withoutAllGiven() {
        // By the plan the eighth reads 9 pages on days 0 and 1, and sells its joy; without it, it reads on.
        StarChart x = Due.of(FULL + "plan 0 2;pay 3 1;");
        int[] want = {18, 0, 63};
        for (int what = 0; what < 3; what++) Due.is("term(" + what + ")", x.term(what), want[what]);
        for (int s = 0; s < 3; s++) {
            StarChart y = Due.of(FULL + "plan 0 2;pay " + s + " 9;");
            Due.is("without pay of " + s, y.term(2), 63);
        }
        StarChart z = Due.of(FULL + "plan 0 2 thin 3;pay 0 9;pay 1 8;pay 2 9;pay 3 9;");
        Due.is("without all", z.term(2), 63);
    }

    // LIKINGS of all on DAY n, added (END): n 0 .. 99.
    private static void ends() {
        StarChart x = idle(0, STEP);
        for (int n = 0; n <= 99; n++) Due.is("end(" + n + ")", x.end(n), n);
        Due.is("below", x.end(-1), StarChart.BAD);
        Due.is("beyond", x.end(100), StarChart.BAD);
        StarChart y = Due.of("child 100 6 0;".repeat(8) + "book 1 9;");
        Due.is("eight on day 0", y.end(0), 800);
        Due.is("eight on day 99", y.end(99), 800);
        StarChart z = Due.of(FULL + "plan 1 3;pay 3 1;");
        int[] want = {165, 166, 162, 158, 158};
        for (int n = 0; n < want.length; n++) Due.is("end(" + n + ") of a full class", z.end(n), want[n]);
    }

    // From DAY 0, by LIKINGS as told; nothing is changed.
    private static void fromDayNull() {
        StarChart x = idle(0, STEP + "plan 9 10;");
        for (int go : new int[] {1, 9, 1, 87, 1}) {
            x.go(go);
            int day = x.now(0);
            Due.is("day 0 told on day " + day, x.end(0), 0);
            Due.is("day 99 told on day " + day, x.end(99), 99);
            Due.is("during, told on day " + day, x.term(0), 1);
            Due.is("after, told on day " + day, x.term(1), 42);
            Due.is("it is that day still", x.now(0), day);
            Due.is("the liking is as it was", x.now(2), day);
        }
    }

    private static void best(StarChart x, int s, int n, int pay, int until, int end) {
        int[] want = {pay, until, end};
        for (int what = 0; what < 3; what++) Due.is("best(" + s + ", " + n + ", " + what + ")", x.best(s, n, what), want[what]);
    }

    // BEST: of all PAYS v (0 .. 9) of this SORT: a star a page, a page a day, as much as it is paid for; no liking bought.
    private static void bestPays() {
        String one = "child 0 1 1;book 6 0;";
        for (int idle = 0; idle <= 10; idle++) {
            StarChart x = idle(idle, one);
            x.tune(2, 0);
            best(x, 0, 0, 0, 0, 0);
            if (idle == 0) best(x, 0, 1, 0, 0, 1);
            else if (idle <= 9) best(x, 0, 1, idle, 1, 1);
            else best(x, 0, 1, 0, 0, 0);
        }
    }

    // And UNTILS u (FROM .. n).
    private static void bestUntils() {
        String one = "child 0 1 1;book 6 0;";
        for (int fromDay = 0; fromDay <= 99; fromDay += 33) {
            StarChart x = idle(5, one + "plan " + fromDay + " 99;");
            x.tune(2, 0);
            x.tune(4, 0);
            Due.is("ahead of from", x.best(0, fromDay - 1, 0), StarChart.BAD);
            best(x, 0, fromDay, 0, fromDay, 0);
            if (fromDay < 99) best(x, 0, fromDay + 1, 5, fromDay + 1, 1);
            if (fromDay < 97) best(x, 0, fromDay + 3, 5, fromDay + 3, 3);
            best(x, 0, 99, fromDay < 99 ? 5 : 0, 99, 99 - fromDay);
            Due.is("beyond all days", x.best(0, 100, 0), StarChart.BAD);
        }
    }

    // Of several the least v, then u.
    private static void bestOfSeveral() {
        // All alike: nobody grows.
        StarChart x = idle(5, "child 7 1 1;book 6 0;plan 4 9;");
        x.tune(1, 0);
        x.tune(2, 0);
        best(x, 0, 9, 0, 4, 7);
        // One day of stars makes it 100, and more of them no more.
        StarChart y = idle(5, "child 99 1 1;book 6 0;plan 2 2;");
        y.tune(2, 0);
        best(y, 0, 9, 5, 3, 100);
        best(y, 0, 2, 0, 2, 99);
        // Two days make it 100 of 98.
        StarChart z = idle(5, "child 98 1 1;book 6 0;plan 2 2;");
        z.tune(2, 0);
        z.tune(4, 0);
        best(z, 0, 3, 5, 3, 99);
        best(z, 0, 9, 5, 4, 100);
        // Paid less, it reads a day less: 5 stars of 99 are 4, 6 of them are 5.
        StarChart w = idle(5, "child 98 1 1;book 6 0;plan 2 2;");
        w.tune(2, 0);
        best(w, 0, 3, 5, 3, 99);
        best(w, 0, 9, 6, 4, 100);
    }

    // Of this SORT alone (others 0).
    private static void bestAlone() {
        String four = "child 0 1 1;" + "book 6 0;".repeat(4) + "plan 0 9;pay 0 9;pay 1 9;pay 2 9;pay 3 9;";
        StarChart x = idle(9, four);
        x.tune(2, 0);
        x.tune(4, 0);
        for (int s = 0; s < 4; s++) best(x, s, 3, 9, 3, 3);
        StarChart y = idle(10, four);
        y.tune(2, 0);
        for (int s = 0; s < 4; s++) best(y, s, 3, 0, 0, 0);
        StarChart z = Due.of(FULL + "plan 0 2;pay 0 9;pay 3 9;");
        best(z, 3, 2, 0, 0, 167);
        best(z, 0, 2, 0, 0, 167);
        for (int s = 0; s < 4; s++) Due.is("pay is as it was", z.book(s, 2), s % 3 == 0 ? 9 : 0);
    }

    // LINE: the least LIKING (0 .. 100) at first by which it has less LIKING on DAY n by THE PLAN than with all GIVEN 0.
    private static void lineLeast() {
        // Without idleness it grows by itself from 0 on, and by the plan it sells all.
        StarChart x = idle(0, "book 6 0;plan 0 2;pay 0 1;");
        Due.is("0 on day 0", x.line(1, 1, 0), StarChart.NONE);
        Due.is("0 on day 1", x.line(1, 1, 1), 0);
        Due.is("0 on day 2", x.line(1, 1, 2), 0);
        // Nothing grows, and one is sold for a star: 0 is no less than 0, but 1 is.
        StarChart y = idle(0, "book 6 1;plan 0 1;pay 0 1;");
        y.tune(2, 1);
        y.tune(1, 0);
        Due.is("1 is less than it was", y.line(1, 1, 1), 1);
        // 90 joys and 9 stars come up to an idle 99: of 100 alone, and of no other liking (89 joys at 99).
        StarChart z = idle(99, "book 6 9;plan 0 1;pay 0 1;");
        z.tune(1, 0);
        z.tune(2, 20);
        Due.is("of 100 alone", z.line(9, 1, 1), 100);
        Due.is("of 90 on", z.line(9, 2, 1), 90);
        Due.is("of none", z.line(8, 1, 1), StarChart.NONE);
    }

    // NONE.
    private static void lineNone() {
        StarChart x = idle(0, "book 6 0;plan 0 2;pay 0 1;");
        Due.is("no take", x.line(1, 0, 9), StarChart.NONE);
        x.tune(2, 0);
        Due.is("nothing bought", x.line(1, 1, 9), StarChart.NONE);
        // Only who has stars reads, and grows by it: 100 stays 100, and there is no 101 that would be less.
        x.tune(0, 1);
        Due.is("100 at most", x.line(1, 1, 1), StarChart.NONE);
        Due.is("no pay", idle(0, "book 6 0;plan 0 2;").line(1, 1, 9), StarChart.NONE);
        Due.is("no sorts", idle(0, "plan 0 2;").line(1, 1, 9), StarChart.NONE);
        Due.is("unforeseen", idle(0, "book 6 0;plan 0 2 after;pay 0 9;").line(1, 1, 9), StarChart.NONE);
        Due.is("day 99, by a plan of one day", idle(0, "book 6 0;plan 98 99;pay 0 9;").line(9, 9, 99), 0);
        Due.is("day 98, ahead of it", idle(0, "book 6 0;plan 98 99;pay 0 9;").line(9, 9, 98), StarChart.NONE);
        Due.is("the last day of all", idle(0, "book 6 0;plan 99 99 thin 20;pay 0 9;").line(9, 9, 99), StarChart.NONE);
    }

    // ENDING: the THIN (0 .. 20) by which END on DAY n is the greatest, of several the least.
    private static void endings() {
        // A thin day with a star is praised: with a pay of 9 all thin days have one but the last of 9 or more and the last
        // two of 18 or more.
        StarChart x = Due.of("child 25 6 5;book 6 4;plan 0 0 after;pay 0 9;");
        int[][] want = {{0, 0}, {1, 1}, {2, 2}, {8, 8}, {9, 10}, {16, 17}, {17, 19}, {18, 20}, {19, 20}, {30, 20}};
        for (int[] row : want) Due.is("ending(" + row[0] + ")", x.ending(row[0]), row[1]);
        Due.is("100 on day 99, whatever is told", x.ending(99), 0);
        StarChart y = Due.of("child 60 6 5;book 2 4;plan 0 5 thin 20;pay 0 9;");
        for (int n : new int[] {0, 5, 6, 50}) Due.is("bought, ending(" + n + ")", y.ending(n), 0);
        Due.is("thin as it was", y.plan(3), 20);
        StarChart z = Due.of("child 60 6 5;book 2 4;plan 0 5 after thin 20;");
        Due.is("all alike", z.ending(50), 0);
    }

    // EASY: how many children choose the least HARD of all SORTS (of several the first) on a DAY, NOW.
    private static void easyOfSeveral() {
        String eight = "child 50 6 5;".repeat(8);
        Due.is("all eight, the first", Due.of(eight + "book 3 5;book 3 5;book 9 4;").easy(), 8);
        Due.is("the second of the easiest", Due.of(eight + "book 3 4;book 3 5;book 9 4;").easy(), 0);
        Due.is("the fourth", Due.of(eight + "book 4 4;book 3 4;book 3 4;book 2 5;").easy(), 8);
        Due.is("not the fourth, as easy as the third", Due.of(eight + "book 4 4;book 3 4;book 2 4;book 2 5;").easy(), 0);
        Due.is("who chooses nothing is not counted", Due.of("child 50 1 1;child 19 1 1;child 20 1 1;book 1 5;").easy(), 2);
        Due.is("no sorts", Due.of(eight).easy(), 0);
        Due.is("no children", Due.of("book 1 9;").easy(), 0);
        Due.is("nothing", new StarChart().easy(), 0);
        StarChart x = Due.of(eight + "book 9 5;book 3 4;plan 1 2;pay 1 9;");
        int[] want = {0, 8, 0};
        for (int day = 0; day < 3; day++) {
            Due.is("easy() on day " + day, x.easy(), want[day]);
            x.go(1);
        }
    }

    // STAYS: the least PAY of a SORT (0 .. 9; others as they are) by which a child chooses this SORT; NONE.
    private static void staysByLeastPay() {
        // A page, a star each: as many stars as it is paid; the other sort has these joys.
        for (int joys = 0; joys <= 9; joys++) {
            String books = "book 6 0;book 9 " + joys + ";plan 0 1;";
            StarChart x = idle(0, "child 10 1 1;child 12 1 1;child 10 1 0;" + books);
            Due.is("as many as joys", x.stays(0, 0), joys);
            Due.is("more than 9", x.stays(1, 0), 12 * joys / 10 > 9 ? StarChart.NONE : 12 * joys / 10);
            Due.is("for nothing, or not", x.stays(2, 0), joys == 0 ? 0 : StarChart.NONE);
            Due.is("no stars at all", x.stays(2, 1), joys == 0 ? StarChart.NONE : 0);
        }
        StarChart y = idle(0, "child 10 1 1;book 6 5;book 6 0;plan 0 1;pay 0 4;pay 1 9;");
        Due.is("one more than 9, behind an equal", y.stays(0, 1), StarChart.NONE);
        Due.is("its own pay is not as it is", y.stays(0, 0), 4);
        StarChart z = idle(0, "child 10 1 1;book 6 5;book 6 0;plan 0 1;pay 0 3;");
        Due.is("8 are no more than 8", z.stays(0, 1), 9);
        // Idle: the want alone must come up to it.
        StarChart w = idle(9, "child 10 1 1;book 6 0;plan 0 1;");
        Due.is("9 idle", w.stays(0, 0), 9);
        w.tune(0, 10);
        Due.is("10 idle", w.stays(0, 0), StarChart.NONE);
        StarChart v = Due.of(FULL + "plan 0 2;pay 3 1;");
        Due.is("the eighth and the fourth", v.stays(7, 3), 0);
        Due.is("the eighth and the first, 54 a star against 91", v.stays(7, 0), 2);
        Due.is("without take", v.stays(6, 3), StarChart.NONE);
    }

    // On FROM, by LIKINGS as told, WORTH 100.
    private static void staysOnFrom() {
        String books = "child 10 1 1;book 6 0;book 9 4;";
        String[] plans = {"plan 0 1;", "plan 98 99;", "plan 50 99;", "plan 7 7 thin 1;", "plan 99 99 thin 1;", "plan 7 7;",
            "plan 99 99;", ""};
        int[] want = {4, 4, 4, 8, 8, StarChart.NONE, StarChart.NONE, StarChart.NONE};
        for (int i = 0; i < plans.length; i++) Due.is("stays of '" + plans[i] + "'", idle(0, books + plans[i]).stays(0, 0), want[i]);
        StarChart x = idle(0, "child 10 1 1;book 6 0;book 9 4;plan 0 9;pay 0 9;");
        x.tune(4, 20);
        x.go(9);
        Due.yes("all has changed", x.now(1) < 100 && x.child(0, 3) != 10);
        Due.is("as told all the same", x.stays(0, 0), 4);
    }

    private static void rests(StarChart x, int m, int v, int many, int least) {
        Due.is("rests(" + m + ", " + v + ", 0)", x.rests(m, v, 0), many);
        Due.is("rests(" + m + ", " + v + ", 1)", x.rests(m, v, 1), least);
    }

    // A JAR of m PAGES (1 .. 999), v stars each: if all PAGES read are m at least.
    private static void jarFilled() {
        // 18 pages, 6 joys, 4 below idle, 9 times the stars.
        StarChart x = idle(10, "child 12 6 9;book 2 5;");
        Due.is("joys", x.want(0, 0, 1), 6);
        rests(x, 18, 1, 1, 1);
        rests(x, 19, 1, 1, 0);
        rests(x, 19, 99, 1, 0);
        rests(x, 18, 0, 1, 0);
        rests(x, 1, 1, 1, 1);
        rests(x, 999, 99, 1, 0);
        // 54 pages of each of eight are 432: no jar of more is ever full.
        StarChart y = idle(99, "child 0 9 9;".repeat(8) + "book 1 0;");
        rests(y, 432, 99, 2, 0);
        rests(y, 433, 99, 1, 0);
    }

    // A REST: such that none would have more by the other thing alone.
    private static void restOrNot() {
        // 4 less by reading, a star for each of the jar's: 3, 4 and 5 of them.
        StarChart x = idle(10, "child 10 1 1;book 6 6;");
        rests(x, 1, 3, 1, 0);
        rests(x, 1, 4, 2, 0);
        rests(x, 1, 5, 1, 1);
        // Joys of idle and no more: it may read, or not.
        rests(idle(6, "child 10 1 1;book 6 6;"), 2, 9, 2, 0);
        rests(idle(5, "child 10 1 1;book 6 6;"), 2, 9, 1, 1);
        rests(idle(7, "child 10 1 1;book 6 6;"), 2, 9, 1, 0);
        // One of two fills it: each of them alone rests, both and none don't.
        rests(idle(7, "child 10 1 1;child 10 1 1;book 6 6;"), 1, 9, 2, 1);
        // Both are needed: both or none.
        rests(idle(7, "child 10 1 1;child 10 1 1;book 6 6;"), 2, 9, 2, 0);
    }

    private static void restsOfEight() {
        String eight = "child 10 1 1;".repeat(8);
        rests(idle(5, eight + "book 6 6;"), 8, 9, 1, 255);
        rests(idle(6, eight + "book 6 6;"), 9, 9, 256, 0);
        rests(idle(7, eight + "book 6 6;"), 9, 99, 1, 0);
        rests(idle(7, eight + "book 6 6;"), 8, 99, 2, 0);
        // Any seven of them, or none.
        rests(idle(7, eight + "book 6 6;"), 7, 99, 9, 0);
        rests(idle(7, eight + "book 6 6;"), 1, 99, 8, 1);
        // The last alone, of 9 pages; who does not take to stars never reads.
        StarChart x = Due.of(FULL + "plan 0 2;pay 3 9;");
        rests(x, 9, 1, 1, 128);
        rests(x, 9, 0, 2, 0);
        rests(x, 10, 99, 2, 0);
    }

    // v times TAKE times WORTH by 100, rounded down.
    private static void jarRoundedDown() {
        StarChart x = Due.of("child 50 1 1;book 6 5;plan 0 1;pay 0 1;");
        x.tune(2, 0);
        x.tune(1, 0);
        x.tune(4, 10);
        x.tune(0, 26);
        rests(x, 1, 1, 2, 0);
        rests(x, 1, 0, 1, 0);
        // One star a day takes one of the worth: 1 of 99 is 0, 2 of 99 are 1.
        x.go(1);
        Due.is("worth", x.now(1), 99);
        rests(x, 1, 1, 1, 0);
        rests(x, 1, 2, 2, 0);
        rests(x, 1, 3, 1, 1);
    }

    // Of its CHOICE without GIVEN; where it is none, of SORT 0.
    private static void jarOfNone() {
        String books = "book 6 1;book 1 5;";
        // 25 joys of sort 1, 6 pages of it; idle of 26, a page of sort 0 and 5 joys of it.
        Due.is("six pages", idle(25, "child 50 1 1;" + books).blamed(6, 0), 0);
        Due.is("one page", idle(26, "child 50 1 1;" + books).blamed(1, 0), 0);
        Due.is("not two", idle(26, "child 50 1 1;" + books).blamed(2, 0), StarChart.NONE);
        rests(idle(26, "child 50 1 1;" + books), 1, 20, 1, 0);
        rests(idle(26, "child 50 1 1;" + books), 1, 21, 2, 0);
        rests(idle(26, "child 50 1 1;" + books), 1, 22, 1, 1);
        // What the plan gives makes no choice here.
        Due.is("by stars sort 0", idle(25, "child 50 1 9;" + books + "plan 0 1;pay 0 9;").choice(0), 0);
        Due.is("six all the same", idle(25, "child 50 1 9;" + books + "plan 0 1;pay 0 9;").blamed(6, 0), 0);
    }

    // BLAMED of a set: the least child that does not read, by whose PAGES besides it would be m; NONE (m already, too).
    private static void blamedJust() {
        StarChart x = Due.of("child 50 1 1;child 50 2 1;child 50 3 1;book 1 4;");
        // 6, 12 and 18 pages.
        int[][] rows = {{1, 0, 0}, {6, 0, 0}, {7, 0, 1}, {12, 0, 1}, {13, 0, 2}, {18, 0, 2}, {19, 0, StarChart.NONE},
            {6, 1, StarChart.NONE}, {7, 1, 1}, {18, 1, 1}, {19, 1, 2}, {24, 1, 2}, {25, 1, StarChart.NONE},
            {12, 2, StarChart.NONE}, {13, 2, 0}, {18, 2, 0}, {19, 2, 2}, {30, 2, 2}, {31, 2, StarChart.NONE},
            {24, 5, StarChart.NONE}, {25, 5, 1}, {36, 5, 1}, {37, 5, StarChart.NONE}, {30, 6, StarChart.NONE}, {31, 6, 0},
            {36, 7, StarChart.NONE}, {37, 7, StarChart.NONE}, {999, 7, StarChart.NONE}, {999, 0, StarChart.NONE}};
        for (int[] row : rows) Due.is("blamed(" + row[0] + ", " + row[1] + ")", x.blamed(row[0], row[1]), row[2]);
    }

    private static void blamedOfEight() {
        StarChart x = Due.of(FULL);
        int[][] rows = {{4, 0, 0}, {5, 0, 7}, {9, 0, 7}, {10, 0, StarChart.NONE}, {37, 127, 7}, {38, 127, StarChart.NONE},
            {28, 127, StarChart.NONE}, {29, 127, 7}, {37, 254, 0}, {33, 254, StarChart.NONE}, {34, 254, 0}, {37, 255, StarChart.NONE},
            {38, 255, StarChart.NONE}, {37, 191, 6}};
        for (int[] row : rows) Due.is("blamed(" + row[0] + ", " + row[1] + ")", x.blamed(row[0], row[1]), row[2]);
        // No page is no help.
        StarChart y = Due.of("child 50 1 1;child 50 2 1;book 7 4;");
        Due.is("not by no page", y.blamed(1, 0), 1);
        Due.is("nor two by one", y.blamed(2, 0), StarChart.NONE);
    }

    // CHECKS: the least c (0 .. 10) such that c times f are no less than (10 less c) times the stars of its CHOICE.
    private static void checksJust() {
        StarChart x = Due.of("child 50 5 1;book 3 4;plan 0 1;pay 0 1;");
        int[][] rows = {{99, 1}, {90, 1}, {89, 2}, {40, 2}, {39, 3}, {24, 3}, {23, 4}, {15, 4}, {14, 5}, {10, 5}, {9, 6}, {7, 6},
            {6, 7}, {5, 7}, {4, 8}, {3, 8}, {2, 9}, {1, 10}, {0, 10}};
        for (int[] row : rows) Due.is("checks(" + row[0] + ")", x.checks(row[0]), row[1]);
        x.go(1);
        Due.is("no stars", x.checks(0), 0);
        // For each child: the eighth has more.
        StarChart y = Due.of("child 50 5 1;".repeat(7) + "child 50 9 1;book 3 4;plan 0 1;pay 0 1;");
        Due.is("18 of the eighth", y.checks(18), 5);
        Due.is("not by 17", y.checks(17), 6);
        // Without page no star.
        Due.is("no page", Due.of("child 50 1 1;book 7 4;plan 0 1;pay 0 9;").checks(0), 0);
        StarChart z = Due.of("child 50 9 1;book 1 4;plan 0 1;pay 0 9;");
        Due.is("486 stars against 99", z.checks(99), 9);
        Due.is("486 stars against 55", z.checks(55), 9);
        Due.is("486 stars against 54", z.checks(54), 9);
        Due.is("486 stars against 53", z.checks(53), 10);
        Due.is("on a thin day", Due.of("child 50 5 1;book 3 4;plan 0 0 thin 1;pay 0 2;").checks(10), 5);
    }

    // 8 children and 4 sorts at most: all are asked.
    private static void fullClass() {
        StarChart x = Due.of(FULL + "plan 0 2;pay 3 1;");
        Due.is("easy", x.easy(), 1);
        Due.is("checks of 9 stars", x.checks(9), 5);
        Due.is("checks of less", x.checks(8), 6);
        Due.is("ending", x.ending(2), 0);
        Due.is("line without take", x.line(9, 0, 2), StarChart.NONE);
        int[] ends = {165, 161, 157, 157};
        for (int n = 0; n < ends.length; n++) Due.is("end(" + n + ")", x.end(n), ends[n]);
    }

    // No CHILDREN, no SORTS.
    private static void nobody() {
        StarChart x = Due.of("book 2 4;book 1 1;plan 3 9 thin 5;pay 0 3;");
        for (int what = 0; what < 3; what++) Due.is("term(" + what + ")", x.term(what), 0);
        Due.is("end", x.end(99), 0);
        best(x, 1, 99, 0, 3, 0);
        Due.is("ending", x.ending(99), 0);
        Due.is("checks", x.checks(0), 0);
        rests(x, 1, 99, 1, 0);
        Due.is("blamed", x.blamed(1, 0), StarChart.NONE);
        StarChart y = Due.of("child 50 9 9;child 40 1 1;plan 3 9 thin 5;");
        for (int what = 0; what < 3; what++) Due.is("term(" + what + ") without sorts", y.term(what), 0);
        Due.is("end without sorts", y.end(99), 90);
        Due.is("ending without sorts", y.ending(99), 0);
        Due.is("line without sorts", y.line(9, 9, 99), StarChart.NONE);
        Due.is("checks without sorts", y.checks(0), 0);
    }
}
