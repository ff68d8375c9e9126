import java.util.ArrayList;
import java.util.List;
import java.util.function.ToIntFunction;

/** Edges of what the document says under 1 CHILDREN; above each method stands the sentence that it asks. */
final class EdgesOfTextsTest {
    private static final String CHILD = "child 1 1 1;", BOOK = "book 1 1;", EIGHT = CHILD.repeat(8), FOUR = BOOK.repeat(4);
    private static final List<String> WORDS = List.of("child", "book", "plan", "after", "thin", "pay");

    /** Where a NUMBER stands: what is ahead of it and behind, the least and the greatest that may, and what tells it. */
    private record Place(String ahead, String behind, int least, int most, ToIntFunction<StarChart> told) { }

    private static final List<Place> PLACES = List.of(
        new Place("child ", " 1 1;", 0, 100, x -> x.child(0, 0)),
        new Place("child 1 ", " 1;", 1, 9, x -> x.child(0, 1)),
        new Place("child 1 1 ", ";", 0, 9, x -> x.child(0, 2)),
        new Place("book ", " 1;", 1, 9, x -> x.book(0, 0)),
        new Place("book 1 ", ";", 0, 9, x -> x.book(0, 1)),
        new Place("plan ", " 99;", 0, 99, x -> x.plan(0)),
        new Place("plan 0 ", ";", 0, 99, x -> x.plan(1)),
        new Place("plan 7 ", ";", 7, 99, x -> x.plan(1)),
        new Place("plan 99 ", " after;", 99, 99, x -> x.plan(1)),
        new Place("plan 0 0 thin ", ";", 0, 20, x -> x.plan(3)),
        new Place("plan 0 0 after thin ", ";", 0, 20, x -> x.plan(3)),
        new Place(BOOK + "pay 0 ", ";", 0, 9, x -> x.book(0, 2)),
        new Place(BOOK + "pay ", " 1;", 0, 0, EdgesOfTextsTest::paidSort),
        new Place(FOUR + "pay ", " 1;", 0, 3, EdgesOfTextsTest::paidSort));

    public static void main(String[] args) {
        numbers();
        noNumbers();
        numbersTooLong();
        tokens();
        manyChildren();
        manySorts();
        planAtFirst();
        fullText();
        typedBytes();
        noItems();
        blanks();
        needlessBlanks();
        otherBytes();
        otherWords();
        sortsToldAhead();
        payToldAgain();
        firstFault();
        earlyEnd();
        lateFaults();
        clearText();
        faultLeavesNothing();
        tunes();
        Due.close("EdgesOfTextsTest");
    }

    private static int paidSort(StarChart x) {
        int s = 0;
        while (x.book(s, 2) == 0) s++;
        return s;
    }

    private static int items(String text) {
        return (int) text.chars().filter(c -> c == ';').count();
    }

    // LIKING (0 .. 100), ABLE (1 .. 9), TAKE (0 .. 9), HARD (1 .. 9), JOY (0 .. 9), FROM, UNTIL (days 0 .. 99), THIN
    // (0 .. 20), PAY (0 .. 9 stars a page); U no less than F; a SORT that was told; a NUMBER beyond what it may be.
    private static void numbers() {
        for (Place place : PLACES) {
            for (int number = 0; number <= 102; number++) {
                String text = place.ahead + number + place.behind;
                if (number < place.least || number > place.most) {
                    Due.fault(text, place.ahead.length());
                } else {
                    StarChart x = Due.chart(text, items(text));
                    Due.is("what '" + text + "' told", place.told.applyAsInt(x), number);
                }
            }
        }
    }

    // FAULT: the first TOKEN that can't stand there; a NUMBER above 100 or with a 0 ahead of others; the text's length.
    private static void noNumbers() {
        List<String> others = new ArrayList<>(WORDS);
        others.addAll(List.of(";", "x", "?", "-1", "+1", "00", "01", "09", "000", "001", "0100", "101", "999", "1000"));
        for (Place place : PLACES) {
            for (String other : others) Due.fault(place.ahead + other + place.behind, place.ahead.length());
            Due.fault(place.ahead, place.ahead.length());
            Due.fault(place.ahead.trim(), place.ahead.trim().length());
            Due.fault(place.ahead + "  ", place.ahead.length() + 2);
        }
    }

    // A NUMBER above 100, however long it is.
    private static void numbersTooLong() {
        for (String number : List.of("4294967296", "4294967297", "18446744073709551617", "1" + "0".repeat(300))) {
            for (Place place : PLACES) Due.fault(place.ahead + number + place.behind, place.ahead.length());
        }
        Due.fault("child " + "0".repeat(394), 6);
        Due.fault("1".repeat(400), 0);
    }

    private static final String ALL = "child book plan after thin pay ; 5 x ?";

    private static String ended(String token) {
        switch (token) {
            case "child": return "child 1 1 1;";
            case "book": return "book 1 1;";
            case "plan": return "plan 0 1;";
            case "pay": return "pay 0 1;";
            case "thin": return "thin 1;";
            case "after": return "after;";
            default: return token;
        }
    }

    // child L A T ; book H J ; plan F U, then perhaps after, then perhaps thin W ; pay S V ; each ended by ; - and the
    // place of the first TOKEN that can't stand there (a ninth child, a fifth book, plan told again, too).
    private static void tokens() {
        String[][] may = {
            {BOOK, "child book plan pay"}, {BOOK + "   ", "child book plan pay"},
            {"child 1 1 1 ", ";"}, {"book 1 1 ", ";"}, {BOOK + "pay 0 1 ", ";"},
            {"plan 0 1 ", "after thin ;"}, {"plan 0 1 after ", "thin ;"}, {"plan 0 1 thin 2 ", ";"},
            {"plan 0 1 after thin 2 ", ";"}, {BOOK + "plan 0 1;", "child book pay"},
            {"plan 0 0 after thin 3;" + BOOK, "child book pay"}, {BOOK + "pay 0 1;", "child book plan pay"},
            {CHILD.repeat(7) + BOOK, "child book plan pay"}, {EIGHT + BOOK, "book plan pay"},
            {BOOK + EIGHT + "pay 0 1;", "book plan pay"}, {BOOK.repeat(3), "child book plan pay"},
            {FOUR, "child plan pay"}, {FOUR + EIGHT, "plan pay"}, {FOUR + EIGHT + "plan 1 2;", "pay"}};
        for (String[] row : may) {
            List<String> good = List.of(row[1].split(" "));
            for (String token : ALL.split(" ")) {
                String text = row[0] + ended(token);
                if (good.contains(token)) Due.chart(text, items(text));
                else Due.fault(text, row[0].length());
            }
        }
        for (String token : List.of("after", "thin", ";", "5", "x", "?")) Due.fault("  " + ended(token), 2);
        for (String token : List.of("child", "book", "plan")) Due.chart("  " + ended(token), 1);
    }

    // CHILDREN (8 at most); a ninth child is a fault, at its first byte.
    private static void manyChildren() {
        StringBuilder text = new StringBuilder();
        for (int c = 0; c < 8; c++) text.append("child ").append(93 + c).append(' ').append(c + 1).append(' ').append(c).append(';');
        StarChart x = Due.chart(text.toString(), 8);
        Due.is("children", x.count(0), 8);
        for (int c = 0; c < 8; c++) {
            int[] want = {93 + c, c + 1, c, 93 + c, 0, 0};
            for (int what = 0; what < 6; what++) Due.is("child(" + c + ", " + what + ")", x.child(c, what), want[what]);
        }
        for (int what = 0; what < 6; what++) Due.is("a ninth", x.child(8, what), StarChart.BAD);
        Due.fault(EIGHT + "child", 96);
        Due.fault(EIGHT + "child 0 0 x", 96);
        // A class that is told later is counted anew, and so is what a faulty text told.
        Due.type(x, EIGHT);
        Due.is("eight others", x.chart(), 8);
        Due.type(x, EIGHT + "?");
        Due.is("a fault behind eight", x.chart(), -10 - 96);
        x.clear();
        Due.type(x, EIGHT);
        Due.is("eight once more", x.chart(), 8);
        Due.type(x, CHILD);
        x.chart();
        Due.is("one alone", x.count(0), 1);
        Due.is("no second", x.child(1, 0), StarChart.BAD);
    }

    // SORTS of books 0 .. (4 at most); a fifth book is a fault, at its first byte.
    private static void manySorts() {
        StarChart x = Due.chart("book 1 9;book 2 0;book 9 8;book 8 1;pay 3 9;pay 0 1;", 6);
        Due.is("sorts", x.count(1), 4);
        int[][] want = {{1, 9, 1}, {2, 0, 0}, {9, 8, 0}, {8, 1, 9}};
        for (int s = 0; s < 4; s++) {
            for (int what = 0; what < 3; what++) Due.is("book(" + s + ", " + what + ")", x.book(s, what), want[s][what]);
        }
        for (int what = 0; what < 3; what++) Due.is("a fifth", x.book(4, what), StarChart.BAD);
        Due.fault(FOUR + "book", 36);
        Due.fault(FOUR + "book 0 x", 36);
        Due.type(x, FOUR + "?");
        Due.is("a fault behind four", x.chart(), -10 - 36);
        x.clear();
        Due.type(x, FOUR);
        Due.is("four others", x.chart(), 4);
        Due.is("the fourth's pay is not kept", x.book(3, 2), 0);
        Due.type(x, BOOK);
        x.chart();
        Due.is("one alone", x.count(1), 1);
        Due.is("no second", x.book(1, 0), StarChart.BAD);
    }

    private static void planOf(StarChart x, int from, int until, int told, int thin) {
        int[] want = {from, until, told, thin};
        for (int what = 0; what < 4; what++) Due.is("plan(" + what + ")", x.plan(what), want[what]);
    }

    // THE PLAN: 0 and 0 at first; TOLD at first; THIN 0; PAY 0.
    private static void planAtFirst() {
        planOf(new StarChart(), 0, 0, 1, 0);
        planOf(Due.chart(CHILD + BOOK, 2), 0, 0, 1, 0);
        planOf(Due.chart("plan 3 4;", 1), 3, 4, 1, 0);
        planOf(Due.chart("plan 3 4 after;", 1), 3, 4, 0, 0);
        planOf(Due.chart("plan 3 4 thin 5;", 1), 3, 4, 1, 5);
        StarChart x = Due.chart("plan 98 99 after thin 20;", 1);
        planOf(x, 98, 99, 0, 20);
        x.chart();
        planOf(x, 0, 0, 1, 0);
        Due.is("no pay", Due.chart(BOOK, 1).book(0, 2), 0);
    }

    // They are a text (400 bytes at most). type: FULL.
    private static void fullText() {
        long blanks = 0x2020202020202020L;
        for (int n = 1; n <= 8; n++) {
            StarChart x = new StarChart();
            Due.type(x, " ".repeat(400 - n));
            Due.is("the last " + n, x.type(blanks, n), 400);
            for (int more = 1; more <= 8; more++) Due.is("more", x.type(blanks, more), StarChart.FULL);
            Due.is("still", x.count(3), 400);
            StarChart y = new StarChart();
            Due.type(y, " ".repeat(401 - n));
            Due.is("one too many", y.type(blanks, n), StarChart.FULL);
            Due.is("as before", y.count(3), 401 - n);
            if (n > 1) Due.is("one less", y.type(blanks, n - 1), 400);
        }
        StarChart x = Due.chart("pay 0 1;".repeat(50), -14);
        Due.is("full, and faulty", x.type(';', 1), StarChart.FULL);
        Due.is("cleared", x.clear(), 400);
        Due.is("one", x.type(' ', 1), 1);
        StarChart y = Due.chart(BOOK + "pay 0 5;".repeat(48) + "pay0 6;", 50);
        Due.is("the last of 400 bytes counts", y.book(0, 2), 6);
        Due.is("room again", y.type(' ', 1), 1);
    }

    // type: the lowest n (1 .. 8) bytes of v, the highest of them first.
    private static void typedBytes() {
        for (int n = 1; n <= 8; n++) {
            for (int place = 0; place < n; place++) {
                // Blanks, and at one place a sign that begins no TOKEN; above them more such signs, which must not come.
                long v = 0x3f3f3f3f3f3f3f3fL;
                for (int i = 0; i < n; i++) v = v << 8 | (i == place ? 0xe9 : ' ');
                StarChart x = new StarChart();
                Due.is("type of " + n, x.type(v, n), n);
                Due.is("its place", x.chart(), -10 - place);
            }
            StarChart y = new StarChart();
            Due.is("blanks", y.type(n == 8 ? 0x2020202020202020L : -1L << 8 * n | 0x2020202020202020L >>> 64 - 8 * n, n), n);
            Due.is("blanks alone", y.chart(), 0);
        }
    }

    // ITEMS (none, too); chart: THE TEXT tells all.
    private static void noItems() {
        Due.chart("", 0);
        Due.chart(" ", 0);
        Due.chart(" ".repeat(400), 0);
        Due.fault(";", 0);
        StarChart x = Due.of(EIGHT + FOUR + "plan 1 2;");
        Due.is("no items", x.chart(), 0);
        Due.is("no children", x.count(0), 0);
        Due.is("no sorts", x.count(1), 0);
        Due.is("no child", x.child(0, 0), StarChart.BAD);
        Due.is("no book", x.book(0, 0), StarChart.BAD);
    }

    // Blanks (32), any number, ahead of, between, behind TOKENS.
    private static void blanks() {
        String[] parts = {"", "child", "100", "9", "9", ";", "book", "9", "9", ";", "plan", "0", "99", "after", "thin", "20", ";",
            "pay", "0", "9", ";", ""};
        for (int many = 1; many <= 12; many++) Due.chart(String.join(" ".repeat(many), parts), 4);
        String least = "child100 9 9;book9 9;plan0 99after thin20;pay0 9;";
        Due.chart(least, 4);
        for (int i = 0; i <= least.length(); i++) {
            boolean within = i > 0 && i < least.length() && Character.isLetterOrDigit(least.charAt(i))
                && Character.isDigit(least.charAt(i)) == Character.isDigit(least.charAt(i - 1))
                && Character.isLetterOrDigit(least.charAt(i - 1));
            if (!within) Due.chart(least.substring(0, i) + " ".repeat(400 - least.length()) + least.substring(i), 4);
        }
    }

    // Blanks are needed only between two rows of letters, two NUMBERS.
    private static void needlessBlanks() {
        Due.chart("child1 1 1;child2 2 2;", 2);
        Due.chart("plan1 2thin3;", 1);
        Due.chart("plan1 2after thin3;", 1);
        Due.fault("plan1 2afterthin3;", 7);
        Due.fault("plan 1 2 afterthin 3;", 9);
        Due.fault("childchild 1 1 1;", 0);
        Due.fault("bookpay 1 1;", 0);
        Due.fault("child 11 1;", 10);
        Due.fault("child 1 11;", 8);
        Due.fault("child 1 1 1child 1 1 1;", 11);
        Due.fault("chi ld 1 1 1;", 0);
        Due.fault("child 10 0 1;", 9);
    }

    // FAULT: the place of a byte that begins none.
    private static void otherBytes() {
        for (int b = 0; b < 256; b++) {
            char sign = (char) b;
            if (sign == ' ') continue;
            Due.fault(sign + CHILD, 0);
            Due.fault(CHILD + sign, 12);
            Due.fault(CHILD + "  " + sign + " " + CHILD, 14);
            boolean letter = sign >= 'a' && sign <= 'z', digit = sign >= '0' && sign <= '9';
            if (letter || digit) continue;
            Due.fault("child" + sign + " 1 1;", 5);
            Due.fault("child 1 1" + sign + " 1;", 9);
            if (sign != ';') Due.fault("child 1 1 1" + sign + ";", 11);
        }
        Due.chart(" " + CHILD, 1);
        Due.chart(CHILD + " ", 1);
    }

    // FAULT: the place of a word that is none of these.
    private static void otherWords() {
        String[] ahead = {"", "", "", "plan 1 2 ", "plan 1 2 ", BOOK}, behind = {" 1 1 1;", " 1 1;", " 1 2;", ";", " 3;", " 0 1;"};
        for (int i = 0; i < 6; i++) {
            String word = WORDS.get(i);
            List<String> others = new ArrayList<>(List.of(word + "s", "a" + word, word + word, word.toUpperCase(), "x"));
            for (int j = 0; j < word.length(); j++) {
                others.add(word.substring(0, j) + (char) (word.charAt(j) + 1) + word.substring(j + 1));
                others.add(word.substring(0, j) + (char) (word.charAt(j) - 1) + word.substring(j + 1));
                if (j > 0) others.add(word.substring(0, j));
            }
            Due.chart(ahead[i] + word + behind[i], items(ahead[i] + behind[i]));
            for (String other : others) Due.fault(ahead[i] + other + behind[i], ahead[i].length());
        }
        Due.fault("z".repeat(400), 0);
        Due.fault("child 1 1 1" + "a".repeat(389), 11);
    }

    // pay S V: a SORT that was told, ahead of it and in this text.
    private static void sortsToldAhead() {
        Due.fault("pay 0 1;" + BOOK, 4);
        Due.fault(BOOK + "pay 1 1;" + BOOK, 13);
        Due.chart(BOOK + "pay 0 1;" + BOOK + "pay 1 1;", 4);
        StarChart x = Due.of(FOUR);
        Due.type(x, "pay 0 1;");
        Due.is("told by another text", x.chart(), -14);
    }

    // pay told again: what is later counts.
    private static void payToldAgain() {
        StarChart x = Due.of(BOOK + "pay 0 9;pay 0 4;" + BOOK + "pay 1 3;pay 0 5;pay 1 0;");
        Due.is("the third", x.book(0, 2), 5);
        Due.is("none in the end", x.book(1, 2), 0);
        Due.is("on its days", Due.of(BOOK + "pay 0 9;plan 0 1;pay 0 4;").given(0, 0), 4);
    }

    // FAULT: the first TOKEN that can't stand there, whatever other faults come behind it.
    private static void firstFault() {
        String[] faults = {"?", "x", "101", "00", ";", "after"};
        for (String one : faults) {
            for (String other : faults) {
                Due.fault(CHILD + one + " " + other, 12);
                Due.fault("child " + one + " " + other, 6);
            }
        }
        Due.fault("plan 5 4 after after;?", 7);
        Due.fault("plan 1 2;plan 5 4;", 9);
        Due.fault(EIGHT + "child 101 0 10;", 96);
        Due.fault("book 0 10;pay 4 10", 5);
    }

    // FAULT: the text's length, if it ends too early.
    private static void earlyEnd() {
        String whole = "child 10 2 3 ; plan 4 5 after thin 6 ; book 7 8; pay 0 9;";
        for (int cut = 0; cut <= whole.length(); cut++) {
            String text = whole.substring(0, cut), bare = text.trim();
            int row = bare.length();
            while (row > 0 && Character.isLetter(bare.charAt(row - 1))) row--;
            String word = bare.substring(row);
            if (bare.isEmpty() || bare.endsWith(";")) Due.chart(text, items(text));
            else if (word.isEmpty() || WORDS.contains(word)) Due.fault(text, text.length());
            else Due.fault(text, row);
        }
        Due.fault("child" + " ".repeat(395), 400);
        Due.fault("plan 1 2" + " ".repeat(392), 400);
        Due.fault(" ".repeat(389) + "child 1 1 1", 400);
    }

    // The last places of a full text.
    private static void lateFaults() {
        for (String last : List.of("?", "x", "5", ";")) Due.fault(" ".repeat(399) + last, 399);
        Due.chart(" ".repeat(388) + CHILD, 1);
        Due.fault(" ".repeat(387) + CHILD + "?", 399);
        Due.fault(" ".repeat(395) + "child", 400);
        Due.fault(" ".repeat(396) + "chil", 396);
    }

    // clear: THE TEXT is empty: how many bytes it had. What it had doesn't come back.
    private static void clearText() {
        StarChart x = new StarChart();
        Due.is("none", x.clear(), 0);
        for (int many : new int[] {1, 8, 399, 400}) {
            Due.type(x, "1".repeat(many));
            Due.is("bytes", x.clear(), many);
            Due.is("none then", x.clear(), 0);
            Due.is("counted", x.count(3), 0);
        }
        String[][] pairs = {{CHILD, "chil", "-10"}, {"child 1 1 10;", "child 1 1 1", "-21"}, {CHILD, "child 1 1 1", "-21"},
            {CHILD, "", "0"}};
        for (String[] row : pairs) {
            Due.type(x, row[0]);
            x.clear();
            Due.type(x, row[1]);
            Due.is("chart() of '" + row[1] + "' behind '" + row[0] + "'", x.chart(), Integer.parseInt(row[2]));
            x.clear();
        }
        Due.type(x, CHILD);
        x.chart();
        Due.is("none behind chart()", x.clear(), 0);
    }

    // chart: -10 less FAULT: nothing changes (THE TEXT stays, too).
    private static void faultLeavesNothing() {
        String late = EIGHT + FOUR + "plan 0 1 after thin 2;pay 3 9;child";
        for (String faulty : List.of("?", late, "child 100 9 9;plan 5 4;", "pay 0 0;")) {
            StarChart x = Look.rich(), y = Look.rich();
            x.clear();
            y.clear();
            Due.type(x, faulty);
            Due.type(y, faulty);
            Due.yes("a fault of '" + faulty + "'", x.chart() <= -10);
            Due.alike("behind the fault of '" + faulty + "'", x, y);
        }
    }

    // TUNES: 0 IDLE (0 .. 99; 10 at first), 1 GROW (0 .. 9; 1), 2 BOUGHT (0 .. 20; 6), 3 PRAISE (0 .. 9; 2), 4 WEAR
    // (0 .. 20; 3), 5 MEND (0 .. 9; 1).
    private static void tunes() {
        int[] first = {10, 1, 6, 2, 3, 1}, most = {99, 9, 20, 9, 20, 9};
        StarChart x = new StarChart();
        for (int what = 0; what < 6; what++) {
            int was = first[what];
            for (int v : new int[] {0, 1, most[what] - 1, most[what]}) {
                Due.is("tune(" + what + ", " + v + ")", x.tune(what, v), was);
                was = v;
                for (int bad : new int[] {-1, most[what] + 1, 100, Integer.MIN_VALUE, Integer.MAX_VALUE}) {
                    Due.is("tune(" + what + ", " + bad + ")", x.tune(what, bad), StarChart.BAD);
                }
            }
            Due.is("as it was told last", x.tune(what, first[what]), most[what]);
        }
        for (int what : new int[] {-1, 6, Integer.MIN_VALUE, Integer.MAX_VALUE}) Due.is("no tune", x.tune(what, 0), StarChart.BAD);
        for (int what = 0; what < 6; what++) Due.is("the others are as they were", x.tune(what, 0), first[what]);
    }
}
