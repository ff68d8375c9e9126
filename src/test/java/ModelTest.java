/** All promises at once: long runs of calls, made up by a fixed row of numbers, against the answers of the Model. */
final class ModelTest {
    private static final int RUNS = 300, CALLS = 512;
    private static long row = 20261119;

    public static void main(String[] args) {
        for (int run = 0; run < RUNS; run++) runOf(run);
        Due.close("ModelTest");
    }

    private static int under(int n) {
        row = row * 6364136223846793005L + 1442695040888963407L;
        return (int) Math.floorMod(row >>> 33, (long) n);
    }

    private static boolean oneIn(int n) {
        return under(n) == 0;
    }

    /** Mostly from 0 to most, now and then a step or far beyond. */
    private static int upTo(int most) {
        if (!oneIn(25)) return under(most + 1);
        int[] odd = {-1, most + 1, Integer.MIN_VALUE, Integer.MAX_VALUE, -9, 1000};
        return odd[under(odd.length)];
    }

    private static void item(StringBuilder text, Object... parts) {
        for (Object part : parts) {
            if (oneIn(9)) text.append(' ');
            text.append(part).append(oneIn(30) ? "  " : " ");
        }
        text.append(oneIn(5) ? "; " : ";");
    }

    private static String text() {
        StringBuilder text = new StringBuilder();
        int kids = oneIn(8) ? under(9) : 1 + under(4), books = oneIn(8) ? under(5) : 1 + under(4);
        boolean keen = oneIn(3);
        for (int i = 0; i < kids; i++) item(text, "child", keen ? 60 + under(41) : under(101), 1 + under(9), under(10));
        for (int i = 0; i < books; i++) item(text, "book", 1 + under(9), keen ? under(10) : under(6));
        if (!oneIn(8)) {
            int from = oneIn(3) ? 0 : under(oneIn(4) ? 100 : 12), until = from + under(Math.min(100 - from, 16));
            if (oneIn(10)) until = 99;
            StringBuilder more = new StringBuilder();
            if (oneIn(2)) more.append(" after");
            if (oneIn(2)) more.append(" thin ").append(under(21));
            item(text, "plan", from, until + more.toString());
        }
        for (int i = 0; books > 0 && i < 4; i++) item(text, "pay", under(books), oneIn(3) ? under(10) : under(4));
        return oneIn(4) ? spoilt(text) : text.toString();
    }

    private static String spoilt(StringBuilder text) {
        String signs = " ;0159abcdhilknopry?A" + (char) 0 + (char) 200;
        String[] words = {"child", "book", "plan", "after", "thin", "pay", "100", "01", ";"};
        for (int i = under(2); i >= 0 && text.length() > 0; i--) {
            int at = under(text.length());
            switch (under(5)) {
                case 0 -> text.deleteCharAt(at);
                case 1 -> text.setCharAt(at, signs.charAt(under(signs.length())));
                case 2 -> text.insert(at, signs.charAt(under(signs.length())));
                case 3 -> text.insert(at, words[under(words.length)]);
                default -> text.setLength(at);
            }
        }
        return text.toString();
    }

    private static int made = 0;

    private static void same(String call, long got, long want) {
        made++;
        Due.is(call, got, want);
    }

    private static void tell(String run, StarChart x, Model y) {
        String text = text();
        if (!oneIn(6)) same(run + "clear()", x.clear(), y.clear());
        for (int i = 0; i < text.length(); i += 8) {
            int n = Math.min(8, text.length() - i);
            long v = under(1 << 30);
            for (int j = 0; j < n; j++) v = v << 8 | text.charAt(i + j) & 255;
            same(run + "type(" + v + ", " + n + ")", x.type(v, n), y.type(v, n));
        }
        same(run + "chart() of '" + text + "'", x.chart(), y.chart());
    }

    private static void runOf(int number) {
        StarChart x = new StarChart();
        Model y = new Model();
        String run = "run " + number + ": ";
        made = 0;
        if (!oneIn(10)) tell(run, x, y);
        while (made < CALLS - 70) {
            if (oneIn(120)) tell(run, x, y);
            else call(run + "call " + made + ": ", x, y);
        }
    }

    private static void call(String run, StarChart x, Model y) {
        int kind = under(36), a, b, c;
        if (kind < 10) look(run, x, y, kind);
        else if (kind < 19) move(run, x, y, kind);
        else if (kind < 26) foretell(run, x, y, kind);
        else gather(run, x, y, kind);
    }

    private static void look(String run, StarChart x, Model y, int kind) {
        int a = upTo(kind == 1 || kind == 7 || kind == 3 ? 3 : 7), b = upTo(5), c = upTo(3);
        switch (kind) {
            case 0 -> same(run + "child " + a + " " + b, x.child(a, b), y.child(a, b));
            case 1 -> same(run + "book " + a + " " + b, x.book(a, b / 2), y.book(a, b / 2));
            case 2 -> same(run + "plan " + c, x.plan(c), y.plan(c));
            case 3 -> {
                int day = oneIn(3) ? upTo(99) : upTo(30);
                same(run + "given " + a + " " + day, x.given(a, day), y.given(a, day));
            }
            case 4, 5 -> {
                a = oneIn(3) ? a : upTo(2);
                b = upTo(3);
                same(run + "want " + a + " " + b + " " + c, x.want(a, b, c), y.want(a, b, c));
            }
            case 6 -> same(run + "choice " + a, x.choice(a), y.choice(a));
            case 7 -> same(run + "now " + b, x.now(b), y.now(b));
            case 8 -> same(run + "count " + b, x.count(b), y.count(b));
            default -> same(run + "trace", x.trace(), y.trace());
        }
    }

    private static void move(String run, StarChart x, Model y, int kind) {
        int a = upTo(5), b = upTo(9), image = upTo(1);
        switch (kind) {
            case 10 -> {
                int v = oneIn(2) ? upTo(20) : upTo(9);
                same(run + "tune " + a + " " + v, x.tune(a, v), y.tune(a, v));
            }
            case 11, 12, 13 -> same(run + "go " + b, x.go(b), y.go(b));
            case 14 -> {
                int n = upTo(99);
                if (oneIn(3)) same(run + "go " + n, x.go(n), y.go(n));
            }
            case 15 -> {
                if (oneIn(2)) same(run + "anew", x.anew(), y.anew());
            }
            case 16 -> same(run + "keep " + image, x.keep(image), y.keep(image));
            case 17 -> same(run + "back " + image, x.back(image), y.back(image));
            default -> {
                int v = oneIn(2) ? under(1000) : (int) row;
                if (oneIn(3)) same(run + "lot " + v, x.lot(v), y.lot(v));
            }
        }
    }

    private static void foretell(String run, StarChart x, Model y, int kind) {
        int n = oneIn(12) ? upTo(99) : upTo(25), a = upTo(9), b = upTo(9), s = upTo(3);
        switch (kind) {
            case 19 -> same(run + "term " + s, x.term(s), y.term(s));
            case 20 -> same(run + "end " + n, x.end(n), y.end(n));
            case 21 -> {
                int what = upTo(2), late = oneIn(30) ? n : upTo(14);
                if (oneIn(4)) same(run + "best " + s + " " + late + " " + what, x.best(s, late, what), y.best(s, late, what));
            }
            case 22 -> {
                if (oneIn(2)) same(run + "line " + a + " " + b + " " + n, x.line(a, b, n), y.line(a, b, n));
            }
            case 23 -> same(run + "ending " + n, x.ending(n), y.ending(n));
            case 24 -> same(run + "easy", x.easy(), y.easy());
            default -> {
                int c = oneIn(3) ? upTo(7) : upTo(1);
                same(run + "stays " + c + " " + s, x.stays(c, s), y.stays(c, s));
            }
        }
    }

    private static void gather(String run, StarChart x, Model y, int kind) {
        int m = oneIn(3) ? upTo(999) : 1 + upTo(80), v = upTo(99), what = upTo(1), sort = upTo(7);
        switch (kind) {
            case 26, 27 -> {
                v = oneIn(2) ? v : upTo(12);
                same(run + "rests " + m + " " + v + " " + what, x.rests(m, v, what), y.rests(m, v, what));
            }
            case 28 -> {
                int set = oneIn(4) ? upTo(255) : upTo(7);
                same(run + "blamed " + m + " " + set, x.blamed(m, set), y.blamed(m, set));
            }
            case 29 -> same(run + "checks " + v, x.checks(v), y.checks(v));
            case 30 -> {
                int came = upTo(99) * (oneIn(2) ? 1 : -1);
                if (!oneIn(4)) same(run + "trial " + sort + " " + came, x.trial(sort, came), y.trial(sort, came));
            }
            case 31 -> {
                int sorts = upTo(255);
                same(run + "joined " + sorts + " " + what, x.joined(sorts, what), y.joined(sorts, what));
            }
            case 32 -> same(run + "parts", x.parts(), y.parts());
            case 33 -> same(run + "ahead " + sort + " " + what, x.ahead(sort, what), y.ahead(sort, what));
            case 34 -> {
                int n = upTo(30);
                same(run + "halves " + n, x.halves(n), y.halves(n));
            }
            default -> {
                int k = upTo(5), c = oneIn(3) ? upTo(7) : upTo(1);
                same(run + "rate " + k + " " + c, x.rate(k, c), y.rate(k, c));
            }
        }
    }
}
