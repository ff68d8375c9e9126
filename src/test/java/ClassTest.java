/** Promises 1 to 8 and 34: a new object, the text, what it tells, tunes, counts. */
final class ClassTest {
    public static void main(String[] args) {
        newObject();
        typing();
        fullText();
        clearing();
        goodTexts();
        badNumbers();
        badTokens();
        earlyEnds();
        tooMany();
        faultChangesNothing();
        chartReadsAnew();
        children();
        books();
        plans();
        tunes();
        counts();
        Due.close("ClassTest");
    }

    private static void newObject() {
        StarChart x = new StarChart();
        for (int what = 0; what <= 3; what++) Due.is("count(" + what + ") of a new object", x.count(what), 0);
        Due.is("day", x.now(0), 0);
        Due.is("worth", x.now(1), 100);
        for (int what = 2; what <= 4; what++) Due.is("now(" + what + ") of a new object", x.now(what), 0);
        Due.is("from", x.plan(0), 0);
        Due.is("until", x.plan(1), 0);
        Due.is("told", x.plan(2), 1);
        Due.is("thin", x.plan(3), 0);
        Due.is("trace", x.trace(), 0);
        Due.is("child(0, 0) of none", x.child(0, 0), StarChart.BAD);
        Due.is("book(0, 0) of none", x.book(0, 0), StarChart.BAD);
        Due.is("back(0) of none", x.back(0), StarChart.STATE);
        Due.is("back(1) of none", x.back(1), StarChart.STATE);
        Due.is("parts() of none", x.parts(), StarChart.NONE);
        Due.is("clear()", x.clear(), 0);
        Due.is("lot(7)", x.lot(7), 1);
        int[] first = {10, 1, 6, 2, 3, 1};
        for (int i = 0; i < 6; i++) Due.is("tune " + i, x.tune(i, 0), first[i]);
    }

    private static void typing() {
        StarChart x = new StarChart();
        Due.is("no byte", x.type(65, 0), StarChart.BAD);
        Due.is("nine bytes", x.type(65, 9), StarChart.BAD);
        Due.is("fewer than none", x.type(65, -1), StarChart.BAD);
        Due.is("least int", x.type(65, Integer.MIN_VALUE), StarChart.BAD);
        Due.is("nothing came", x.count(3), 0);
        // "book 3 7" and ";": the highest of the lowest n bytes comes first, what is above them not at all.
        Due.is("eight", x.type(0x626f6f6b20332037L, 8), 8);
        Due.is("one", x.type(0x6666666666663bL, 1), 9);
        Due.is("chart", x.chart(), 1);
        Due.is("hard", x.book(0, 0), 3);
        Due.is("joy", x.book(0, 1), 7);
        int sum = 0;
        for (int n = 1; n <= 8; n++) Due.is("type of " + n, x.type(0x2020202020202020L, n), sum += n);
        Due.is("blanks", x.chart(), 0);
        Due.is("high bytes", x.type(-1L, 8), 8);
        Due.is("high bytes begin no token", x.chart(), -10);
    }

    private static void fullText() {
        StarChart x = new StarChart();
        for (int i = 1; i <= 49; i++) Due.is("type", x.type(0x2020202020202020L, 8), 8 * i);
        Due.is("to 393", x.type(32, 1), 393);
        Due.is("eight beyond", x.type(0x2020202020202020L, 8), StarChart.FULL);
        Due.is("unchanged", x.count(3), 393);
        Due.is("to 400", x.type(0x20202020202020L, 7), 400);
        Due.is("one beyond", x.type(32, 1), StarChart.FULL);
        Due.is("BAD ahead of FULL", x.type(32, 9), StarChart.BAD);
        Due.is("BAD ahead of FULL", x.type(32, 0), StarChart.BAD);
        Due.is("all blanks", x.chart(), 0);
        Due.is("empty then", x.type(32, 1), 1);
        StarChart y = new StarChart();
        for (int i = 0; i < 400; i++) y.type(';', 1);
        Due.is("400 tokens", y.chart(), -10);
        Due.is("all kept", y.clear(), 400);
        StringBuilder text = new StringBuilder("book 1 1;");
        for (int i = 0; i < 48; i++) text.append("pay 0 5;");
        Due.type(y, text.append("pay0 6;").toString());
        Due.is("400 bytes", y.count(3), 400);
        Due.is("50 items", y.chart(), 50);
        Due.is("the last pay counts", y.book(0, 2), 6);
    }

    private static void clearing() {
        StarChart x = new StarChart();
        Due.is("none", x.clear(), 0);
        Due.type(x, "child 1 1 1");
        Due.is("eleven", x.clear(), 11);
        Due.is("none then", x.clear(), 0);
        Due.is("bytes", x.count(3), 0);
        Due.is("an empty text", x.chart(), 0);
        Due.is("no child", x.count(0), 0);
    }

    private static void goodTexts() {
        Due.chart("", 0);
        Due.chart("   ", 0);
        Due.chart("child 0 1 0;", 1);
        Due.chart("child 100 9 9;", 1);
        Due.chart("book 1 0;book 9 9;", 2);
        Due.chart("plan 0 0;", 1);
        Due.chart("plan 99 99;", 1);
        Due.chart("plan 0 99;", 1);
        Due.chart("plan 1 2 after;", 1);
        Due.chart("plan 1 2 thin 0;", 1);
        Due.chart("plan 1 2 thin 20;", 1);
        Due.chart("plan 1 2 after thin 3;", 1);
        Due.chart("book 1 1;pay 0 0;pay 0 9;", 3);
        Due.chart("  child  5   5 5 ; book 1 1 ;  ", 2);
        Due.chart("child5 5 5;book1 1;plan1 2after thin3;pay0 9;", 4);
        Due.chart("child 5 5 5;plan 3 3;child 5 5 5;book 2 2;pay 0 1;book 3 3;pay 1 1;pay 0 2;", 8);
    }

    private static void badNumbers() {
        Due.chart("child 101 1 1;", -16);
        Due.chart("child 1 0 1;", -18);
        Due.chart("child 1 10 1;", -18);
        Due.chart("child 1 1 10;", -20);
        Due.chart("child 1 1 100;", -20);
        Due.chart("book 0 1;", -15);
        Due.chart("book 10 1;", -15);
        Due.chart("book 1 10;", -17);
        Due.chart("plan 100 100;", -15);
        Due.chart("plan 0 100;", -17);
        Due.chart("plan 5 4;", -17);
        Due.chart("plan 1 2 thin 21;", -24);
        Due.chart("pay 0 1;", -14);
        Due.chart("pay 0 1;book 1 1;", -14);
        Due.chart("book 1 1;pay 1 1;", -23);
        Due.chart("book 1 1;pay 4 1;", -23);
        Due.chart("book 1 1;pay 0 10;", -25);
        Due.chart("child 01 1 1;", -16);
        Due.chart("child 00 1 1;", -16);
        Due.chart("child 1 01 1;", -18);
        Due.chart("child 1000 1 1;", -16);
        Due.chart("child 99999999999999999999 1 1;", -16);
        Due.chart("child 4294967297 1 1;", -16);
    }

    private static void badTokens() {
        Due.chart(";", -10);
        Due.chart("5;", -10);
        Due.chart("  after;", -12);
        Due.chart("thin 1;", -10);
        Due.chart("childs 1 1 1;", -10);
        Due.chart("chil 1 1 1;", -10);
        Due.chart("childbook 1 1;", -10);
        Due.chart("Child 1 1 1;", -10);
        Due.chart("child 1 1 1;;", -22);
        Due.chart("child 1 1 1 1;", -22);
        Due.chart("child 1 1;", -19);
        Due.chart("child 1 1 1;?", -22);
        Due.chart("child 1 1 1;chi?ld 1 1 1;", -22);
        Due.chart("child\t1 1 1;", -15);
        Due.chart("child 1 1 1;\n", -22);
        Due.chart("child 1 1 1;" + (char) 233, -22);
        Due.chart("child 1 1 1;" + (char) 0, -22);
        Due.chart("child 1 1 1;" + (char) 160, -22);
        Due.chart("child -1 1 1;", -16);
        Due.chart("child 1 book 1;", -18);
        Due.chart("book 1 1 pay 0 1;", -19);
        Due.chart("plan 1 2 thin;", -23);
        Due.chart("plan 1 2 after after;", -25);
        Due.chart("plan 1 2 thin 3 after;", -26);
        Due.chart("plan 1 2 thin 3 thin 3;", -26);
        Due.chart("plan 1 2afterthin 3;", -18);
        Due.chart("plan 1 after;", -17);
        Due.chart("plan 1 2;plan 1 2;", -19);
        Due.chart("plan 1 2;child 1 1 1;plan 3 4;", -31);
        Due.chart("child 1 1 1;0", -22);
        for (String word : new String[] {"dhild", "aook", "qlan", "ay", "hin", "after", "childz", "achild", "z", "a"}) Due.chart(word + " 1 1 1;", -10);
        Due.chart("plan 1 2 bfter;", -19);
        Due.chart("plan 1 2 uhin 3;", -19);
        Due.chart("book 1 1;qay 0 1;", -19);
        // The signs next to a, z, 0 and 9 are none of these.
        for (String sign : new String[] {"`", "{", "/", ":"}) {
            Due.chart("child" + sign + " 1 1 1;", -15);
            Due.chart("child 1" + sign + " 1 1;", -17);
        }
        Due.chart("child;", -15);
        Due.chart("child 1;", -17);
        Due.chart("book;", -14);
        Due.chart("book 1;", -16);
        Due.chart("plan;", -14);
        Due.chart("plan 1;", -16);
        Due.chart("book 1 1;pay;", -22);
        Due.chart("book 1 1;pay 0;", -24);
        // The first fault counts, whatever comes behind it.
        Due.chart("child 1 x 1;plan 5 4;", -18);
    }

    private static void earlyEnds() {
        Due.chart("child", -15);
        Due.chart("child ", -16);
        Due.chart("child 1 1 1", -21);
        Due.chart("child 1 1 1  ", -23);
        Due.chart("plan 1", -16);
        Due.chart("plan 1 2 thin", -23);
        Due.chart("plan 1 2 after", -24);
        Due.chart("book 1 1;pay", -22);
        Due.chart("chil", -10);
    }

    private static void tooMany() {
        String child = "child 1 1 1;", book = "book 1 1;";
        Due.chart(child.repeat(8), 8);
        Due.chart(child.repeat(9), -10 - 96);
        Due.chart(child.repeat(8) + " child", -10 - 97);
        Due.chart(book.repeat(4), 4);
        Due.chart(book.repeat(5), -10 - 36);
    }

    private static void faultChangesNothing() {
        StarChart x = Due.of("child 40 5 5;book 2 5;plan 1 9 after thin 2;pay 0 3;");
        x.go(2);
        x.keep(0);
        x.go(1);
        Due.type(x, "child 1 1 1;child 2 2 2;book 1 1;plan 3 4;pay 0 7;oops");
        Due.is("a fault", x.chart(), -10 - 50);
        Due.is("again", x.chart(), -10 - 50);
        Due.is("bytes", x.count(3), 54);
        Due.is("children", x.count(0), 1);
        Due.is("sorts", x.count(1), 1);
        Due.is("liking", x.child(0, 0), 40);
        Due.is("pay", x.book(0, 2), 3);
        Due.is("from", x.plan(0), 1);
        Due.is("until", x.plan(1), 9);
        Due.is("told", x.plan(2), 0);
        Due.is("thin", x.plan(3), 2);
        Due.is("day", x.now(0), 3);
        Due.is("pages", x.now(3), 45);
        Due.is("the image", x.back(0), 2);
    }

    private static void chartReadsAnew() {
        StarChart x = Due.of("child 40 5 5;book 2 5;plan 1 9 after thin 2;pay 0 3;");
        x.tune(0, 7);
        x.trial(3, 50);
        x.lot(99);
        x.go(4);
        x.keep(0);
        x.keep(1);
        x.rate(0, 0);
        x.go(2);
        Due.type(x, "child 70 3 2;child 20 1 1;book 4 4;");
        Due.is("three items", x.chart(), 3);
        Due.is("bytes", x.count(3), 0);
        Due.is("children", x.count(0), 2);
        Due.is("day", x.now(0), 0);
        Due.is("worth", x.now(1), 100);
        Due.is("likings", x.now(2), 90);
        Due.is("pages", x.now(3), 0);
        Due.is("stars", x.now(4), 0);
        Due.is("pay is not kept", x.book(0, 2), 0);
        Due.is("from", x.plan(0), 0);
        Due.is("until", x.plan(1), 0);
        Due.is("told", x.plan(2), 1);
        Due.is("thin", x.plan(3), 0);
        Due.is("image 0", x.back(0), StarChart.STATE);
        Due.is("image 1", x.back(1), StarChart.STATE);
        Due.is("tunes stay", x.tune(0, 7), 7);
        Due.is("trials stay", x.count(2), 1);
        Due.is("the lot stays", x.lot(99), 99);
        Due.is("the trace goes on", x.trace(), 1);
        Due.is("an empty text", x.chart(), 0);
        Due.is("tells none", x.count(0) + x.count(1), 0);
    }

    private static void children() {
        StarChart x = Due.of("child 40 5 5;child 0 1 0;child 100 9 9;book 2 5;plan 0 9 after;pay 0 3;");
        int[][] want = {{40, 5, 5, 40, 0, 0}, {0, 1, 0, 0, 0, 0}, {100, 9, 9, 100, 0, 0}};
        for (int c = 0; c < 3; c++) {
            for (int what = 0; what < 6; what++) Due.is("child(" + c + ", " + what + ")", x.child(c, what), want[c][what]);
        }
        x.go(1);
        // JOYS of 20, 0, 50 against 10; 15 and 27 pages, 3 stars a page; GROW 1 and PRAISE 2.
        int[][] then = {{40, 5, 5, 43, 15, 45}, {0, 1, 0, 0, 0, 0}, {100, 9, 9, 100, 27, 81}};
        for (int c = 0; c < 3; c++) {
            for (int what = 0; what < 6; what++) Due.is("child(" + c + ", " + what + ") then", x.child(c, what), then[c][what]);
        }
        Due.is("a fourth", x.child(3, 0), StarChart.BAD);
        Due.is("below none", x.child(-1, 0), StarChart.BAD);
        Due.is("what 6", x.child(0, 6), StarChart.BAD);
        Due.is("what -1", x.child(0, -1), StarChart.BAD);
        Due.is("far off", x.child(Integer.MAX_VALUE, Integer.MIN_VALUE), StarChart.BAD);
    }

    private static void books() {
        StarChart x = Due.of("book 2 5;book 9 0;pay 1 4;book 1 9;pay 0 8;pay 1 6;");
        int[][] want = {{2, 5, 8}, {9, 0, 6}, {1, 9, 0}};
        for (int s = 0; s < 3; s++) {
            for (int what = 0; what < 3; what++) Due.is("book(" + s + ", " + what + ")", x.book(s, what), want[s][what]);
        }
        Due.is("a fourth", x.book(3, 0), StarChart.BAD);
        Due.is("below none", x.book(-1, 0), StarChart.BAD);
        Due.is("what 3", x.book(0, 3), StarChart.BAD);
        Due.is("what -1", x.book(0, -1), StarChart.BAD);
    }

    private static void plans() {
        StarChart x = Due.of("plan 7 31 after thin 12;");
        int[] want = {7, 31, 0, 12};
        for (int what = 0; what < 4; what++) Due.is("plan(" + what + ")", x.plan(what), want[what]);
        Due.is("what 4", x.plan(4), StarChart.BAD);
        Due.is("what -1", x.plan(-1), StarChart.BAD);
        StarChart y = Due.of("plan 7 31 thin 12;");
        Due.is("told", y.plan(2), 1);
        Due.is("thin", y.plan(3), 12);
        Due.is("not thin", Due.of("plan 7 31 after;").plan(3), 0);
    }

    private static void tunes() {
        StarChart x = new StarChart();
        int[] first = {10, 1, 6, 2, 3, 1}, most = {99, 9, 20, 9, 20, 9};
        for (int i = 0; i < 6; i++) {
            Due.is("below", x.tune(i, -1), StarChart.BAD);
            Due.is("beyond", x.tune(i, most[i] + 1), StarChart.BAD);
            Due.is("first " + i, x.tune(i, most[i]), first[i]);
            Due.is("most " + i, x.tune(i, 0), most[i]);
            Due.is("least " + i, x.tune(i, first[i]), 0);
        }
        Due.is("what 6", x.tune(6, 0), StarChart.BAD);
        Due.is("what -1", x.tune(-1, 0), StarChart.BAD);
        Due.is("far off", x.tune(Integer.MIN_VALUE, Integer.MAX_VALUE), StarChart.BAD);
        x.tune(1, 5);
        x.go(3);
        x.anew();
        Due.is("anew leaves it", x.tune(1, 1), 5);
    }

    private static void counts() {
        StarChart x = Due.of("child 1 1 1;child 1 1 1;child 1 1 1;book 1 1;book 2 2;");
        x.trial(0, 0);
        Due.type(x, "abcde");
        int[] want = {3, 2, 1, 5};
        for (int what = 0; what < 4; what++) Due.is("count(" + what + ")", x.count(what), want[what]);
        Due.is("what 4", x.count(4), StarChart.BAD);
        Due.is("what -1", x.count(-1), StarChart.BAD);
    }
}
