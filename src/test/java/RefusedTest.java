import java.util.ArrayList;
import java.util.List;
import java.util.function.Supplier;
import java.util.function.ToLongFunction;

/**
 * "Refused, and nothing changes, the first of these: BAD (a number is not as told, or there is no such thing), STATE (as
 * told), FULL." Each call just beyond what it may be asked, and just within.
 */
final class RefusedTest {
    private static final int BAD = StarChart.BAD, STATE = StarChart.STATE, FULL = StarChart.FULL, NO = StarChart.NO;
    private static final int LEAST = Integer.MIN_VALUE, MOST = Integer.MAX_VALUE;

    /** A call as the document would tell it, and what it answers. */
    private record Call(String told, ToLongFunction<StarChart> made) { }

    public static void main(String[] args) {
        badClass();
        badDays();
        badForetold();
        badJars();
        badTrials();
        badKinds();
        goodClass();
        goodForetold();
        goodTrials();
        withoutChildren();
        lastDay();
        withoutSorts();
        withoutImages();
        fullText();
        fullTrials();
        askingChangesNothing();
        Due.close("RefusedTest");
    }

    private interface One { int of(StarChart x, int a); }

    private interface Two { int of(StarChart x, int a, int b); }

    private interface Three { int of(StarChart x, int a, int b, int c); }

    private static List<Call> one(String name, One made, int... row) {
        List<Call> calls = new ArrayList<>();
        for (int a : row) calls.add(new Call(name + "(" + a + ")", x -> made.of(x, a)));
        return calls;
    }

    private static List<Call> two(String name, Two made, int[]... rows) {
        List<Call> calls = new ArrayList<>();
        for (int[] r : rows) calls.add(new Call(name + "(" + r[0] + ", " + r[1] + ")", x -> made.of(x, r[0], r[1])));
        return calls;
    }

    private static List<Call> three(String name, Three made, int[]... rows) {
        List<Call> calls = new ArrayList<>();
        for (int[] r : rows) {
            calls.add(new Call(name + "(" + r[0] + ", " + r[1] + ", " + r[2] + ")", x -> made.of(x, r[0], r[1], r[2])));
        }
        return calls;
    }

    private static int[] row(int... numbers) {
        return numbers;
    }

    /** Each call by itself answers this, and an object that was not asked is like the one that was. */
    private static void refused(int due, Supplier<StarChart> of, List<Call> calls) {
        for (Call call : calls) {
            StarChart x = of.get(), y = of.get();
            Due.is(call.told, call.made.applyAsLong(x), due);
            Due.alike("behind " + call.told, x, y);
        }
    }

    private static void allowed(Supplier<StarChart> of, List<Call> calls) {
        for (Call call : calls) {
            long answer = call.made.applyAsLong(of.get());
            Due.yes(call.told + " is not refused: " + answer, answer != BAD && answer != STATE && answer != FULL && answer != NO);
        }
    }

    private static void bad(List<Call> calls) {
        refused(BAD, Look::rich, calls);
    }

    private static void good(List<Call> calls) {
        allowed(Look::rich, calls);
    }

    private static void badClass() {
        bad(one("type of bytes", (x, n) -> x.type(65, n), 0, 9, -1, LEAST, MOST));
        bad(two("child", StarChart::child, row(3, 0), row(8, 0), row(-1, 0), row(0, 6), row(0, -1), row(MOST, 0), row(0, LEAST)));
        bad(two("book", StarChart::book, row(2, 0), row(4, 0), row(-1, 0), row(0, 3), row(0, -1), row(MOST, 0), row(0, LEAST)));
        bad(one("plan", StarChart::plan, 4, -1, LEAST, MOST));
        bad(two("tune", StarChart::tune, row(6, 0), row(-1, 0), row(LEAST, 0), row(MOST, 0)));
        int[] most = {99, 9, 20, 9, 20, 9};
        for (int what = 0; what < 6; what++) {
            bad(two("tune", StarChart::tune, row(what, -1), row(what, most[what] + 1), row(what, LEAST), row(what, MOST)));
        }
        bad(one("count", StarChart::count, 4, -1, LEAST, MOST));
    }

    private static void badDays() {
        bad(two("given", StarChart::given, row(2, 0), row(4, 0), row(-1, 0), row(0, 100), row(0, -1), row(LEAST, 0), row(0, MOST)));
        bad(three("want", StarChart::want, row(3, 0, 0), row(-1, 0, 0), row(0, 2, 0), row(0, -1, 0), row(0, 0, 4), row(0, 0, -1),
            row(LEAST, 0, 0), row(0, MOST, 0), row(0, 0, LEAST)));
        bad(one("choice", StarChart::choice, 3, 8, -1, LEAST, MOST));
        bad(one("go", StarChart::go, 0, 100, -1, LEAST, MOST));
        bad(one("now", StarChart::now, 5, -1, LEAST, MOST));
    }

    private static void badForetold() {
        bad(one("term", StarChart::term, 3, -1, LEAST, MOST));
        bad(one("end", StarChart::end, 100, -1, LEAST, MOST));
        // FROM is 1: n is FROM .. 99.
        bad(three("best", StarChart::best, row(2, 5, 0), row(-1, 5, 0), row(0, 0, 0), row(0, 100, 0), row(0, -1, 0), row(0, 5, 3),
            row(0, 5, -1), row(MOST, 5, 0), row(0, LEAST, 0), row(0, MOST, 0), row(0, 5, MOST)));
        bad(three("line", StarChart::line, row(0, 5, 5), row(10, 5, 5), row(5, -1, 5), row(5, 10, 5), row(5, 5, -1), row(5, 5, 100),
            row(LEAST, 5, 5), row(5, MOST, 5), row(5, 5, LEAST)));
        bad(one("ending", StarChart::ending, 100, -1, LEAST, MOST));
        bad(two("stays", StarChart::stays, row(3, 0), row(-1, 0), row(0, 2), row(0, -1), row(MOST, 0), row(0, LEAST)));
    }

    private static void badJars() {
        bad(three("rests", StarChart::rests, row(0, 5, 0), row(1000, 5, 0), row(-1, 5, 0), row(5, -1, 0), row(5, 100, 0), row(5, 5, 2),
            row(5, 5, -1), row(LEAST, 5, 0), row(5, MOST, 0), row(5, 5, LEAST)));
        // Three children: the sets are 0 .. 7.
        bad(two("blamed", StarChart::blamed, row(0, 1), row(1000, 1), row(-1, 1), row(5, 8), row(5, 9), row(5, 256), row(5, -1),
            row(5, LEAST), row(5, MOST), row(MOST, 1)));
        bad(one("checks", StarChart::checks, 100, -1, LEAST, MOST));
    }

    private static void badTrials() {
        bad(two("trial", StarChart::trial, row(8, 0), row(-1, 0), row(0, 100), row(0, -100), row(LEAST, 0), row(0, MOST)));
        refused(NO, Look::rich, two("joined", StarChart::joined, row(256, 0), row(-1, 0), row(257, 1), row(255, 2), row(255, -1),
            row(0, 0), row(0, 1), row(2, 0), row(118, 1), row(LEAST, 0), row(255, MOST)));
        refused(NO, Look::rich, two("ahead", StarChart::ahead, row(8, 0), row(-1, 0), row(0, 2), row(0, -1), row(MOST, 0),
            row(0, LEAST)));
        refused(NO, Look::rich, one("halves", StarChart::halves, 100, -1, LEAST, MOST));
        Supplier<StarChart> none = () -> Due.of("child 60 6 5;");
        refused(NO, none, two("joined", StarChart::joined, row(255, 0), row(255, 1), row(1, 0)));
        refused(NO, none, two("ahead", StarChart::ahead, row(0, 0), row(0, 1), row(7, 0)));
    }

    private static void badKinds() {
        refused(NO, Look::rich, two("rate", StarChart::rate, row(6, 0), row(-1, 0), row(0, 3), row(5, 3), row(4, -1), row(6, 3),
            row(LEAST, 0), row(0, MOST)));
        bad(one("keep", StarChart::keep, 2, -1, LEAST, MOST));
        bad(one("back", StarChart::back, 2, -1, LEAST, MOST));
    }

    private static void goodClass() {
        good(one("type of bytes", (x, n) -> x.type(65, n), 1, 8));
        good(two("child", StarChart::child, row(0, 0), row(2, 0), row(0, 5), row(2, 5)));
        good(two("book", StarChart::book, row(0, 0), row(1, 0), row(0, 2), row(1, 2)));
        good(one("plan", StarChart::plan, 0, 3));
        good(two("tune", StarChart::tune, row(0, 0), row(0, 99), row(1, 0), row(1, 9), row(2, 0), row(2, 20), row(3, 0), row(3, 9),
            row(4, 0), row(4, 20), row(5, 0), row(5, 9)));
        good(one("count", StarChart::count, 0, 3));
        good(two("given", StarChart::given, row(0, 0), row(1, 0), row(0, 99), row(1, 99)));
        good(three("want", StarChart::want, row(0, 0, 0), row(2, 0, 0), row(0, 1, 0), row(0, 0, 3), row(2, 1, 3)));
        good(one("choice", StarChart::choice, 0, 2));
        good(one("go", StarChart::go, 1, 99));
        good(one("now", StarChart::now, 0, 4));
    }

    private static void goodForetold() {
        good(one("term", StarChart::term, 0, 2));
        good(one("end", StarChart::end, 0, 99));
        good(three("best", StarChart::best, row(0, 1, 0), row(1, 1, 0), row(0, 99, 0), row(0, 5, 2), row(1, 99, 2)));
        good(three("line", StarChart::line, row(1, 5, 5), row(9, 5, 5), row(5, 0, 5), row(5, 9, 5), row(5, 5, 0), row(5, 5, 99)));
        good(one("ending", StarChart::ending, 0, 99));
        good(two("stays", StarChart::stays, row(0, 0), row(2, 0), row(0, 1), row(2, 1)));
        good(three("rests", StarChart::rests, row(1, 5, 0), row(999, 5, 0), row(5, 0, 0), row(5, 99, 0), row(5, 5, 1),
            row(999, 99, 1)));
        good(two("blamed", StarChart::blamed, row(1, 1), row(999, 1), row(5, 0), row(5, 7)));
        good(one("checks", StarChart::checks, 0, 99));
    }

    private static void goodTrials() {
        good(two("trial", StarChart::trial, row(0, 0), row(7, 0), row(0, 99), row(0, -99), row(7, -99)));
        good(two("joined", StarChart::joined, row(1, 0), row(255, 0), row(1, 1), row(255, 1)));
        good(two("ahead", StarChart::ahead, row(0, 0), row(7, 0), row(0, 1), row(7, 1)));
        good(one("halves", StarChart::halves, 0, 99));
        good(one("lot", StarChart::lot, 0, -1, LEAST, MOST));
        good(two("rate", StarChart::rate, row(0, 0), row(5, 0), row(0, 2), row(5, 2)));
        good(one("keep", StarChart::keep, 0, 1));
        good(one("back", StarChart::back, 0, 1));
    }

    // BAD: there is no such child; a set may hold none then.
    private static void withoutChildren() {
        Supplier<StarChart> none = () -> Due.of("book 2 4;plan 1 4;pay 0 2;");
        for (int what = 0; what < 6; what++) refused(BAD, none, two("child", StarChart::child, row(0, what)));
        for (int kind = 0; kind < 6; kind++) refused(NO, none, two("rate", StarChart::rate, row(kind, 0)));
        refused(BAD, none, one("choice", StarChart::choice, 0));
        refused(BAD, none, three("want", StarChart::want, row(0, 0, 0)));
        refused(BAD, none, two("stays", StarChart::stays, row(0, 0)));
        refused(BAD, none, two("blamed", StarChart::blamed, row(5, 1), row(5, -1)));
        allowed(none, two("blamed", StarChart::blamed, row(5, 0)));
        Supplier<StarChart> eight = () -> Due.of("child 60 6 5;".repeat(8) + "book 2 4;");
        allowed(eight, two("blamed", StarChart::blamed, row(5, 255)));
        refused(BAD, eight, two("blamed", StarChart::blamed, row(5, 256)));
        allowed(eight, two("child", StarChart::child, row(7, 0)));
        refused(BAD, eight, two("child", StarChart::child, row(8, 0)));
        refused(NO, eight, two("rate", StarChart::rate, row(0, 8)));
    }

    private static StarChart onDay(int day) {
        StarChart x = Look.rich();
        x.go(day - 3);
        return x;
    }

    // go: STATE: it is DAY 99.
    private static void lastDay() {
        refused(STATE, () -> onDay(99), one("go", StarChart::go, 1, 2, 98, 99));
        refused(BAD, () -> onDay(99), one("go", StarChart::go, 0, 100, -1, LEAST, MOST));
        allowed(() -> onDay(98), one("go", StarChart::go, 1, 2, 98, 99));
        allowed(() -> onDay(99), one("choice", StarChart::choice, 0));
        allowed(() -> onDay(99), one("keep", StarChart::keep, 0));
    }

    // rests, blamed: STATE: no SORTS.
    private static void withoutSorts() {
        Supplier<StarChart> none = () -> Due.of("child 60 6 5;child 20 3 2;plan 1 4;");
        refused(STATE, none, three("rests", StarChart::rests, row(1, 0, 0), row(999, 99, 1)));
        refused(BAD, none, three("rests", StarChart::rests, row(0, 0, 0), row(1000, 0, 0), row(1, -1, 0), row(1, 100, 0), row(1, 0, 2),
            row(1, 0, -1)));
        refused(STATE, none, two("blamed", StarChart::blamed, row(1, 0), row(999, 3)));
        refused(BAD, none, two("blamed", StarChart::blamed, row(0, 0), row(1000, 0), row(1, 4), row(1, -1)));
        refused(STATE, StarChart::new, three("rests", StarChart::rests, row(1, 0, 0)));
        refused(STATE, StarChart::new, two("blamed", StarChart::blamed, row(1, 0)));
        refused(BAD, StarChart::new, two("blamed", StarChart::blamed, row(1, 1)));
        refused(BAD, none, two("book", StarChart::book, row(0, 0)));
        refused(BAD, none, two("given", StarChart::given, row(0, 0)));
        refused(BAD, none, three("want", StarChart::want, row(0, 0, 0)));
        refused(BAD, none, three("best", StarChart::best, row(0, 5, 0)));
        refused(BAD, none, two("stays", StarChart::stays, row(0, 0)));
    }

    private static StarChart kept(int image) {
        StarChart x = Due.of("child 60 6 5;book 2 4;plan 1 4;");
        x.go(2);
        x.keep(image);
        x.go(2);
        x.lot(9);
        return x;
    }

    // back: STATE: none was kept.
    private static void withoutImages() {
        Supplier<StarChart> none = () -> Due.of("child 60 6 5;book 2 4;");
        refused(STATE, none, one("back", StarChart::back, 0, 1));
        refused(BAD, none, one("back", StarChart::back, 2, -1));
        refused(STATE, () -> kept(0), one("back", StarChart::back, 1));
        refused(STATE, () -> kept(1), one("back", StarChart::back, 0));
        allowed(() -> kept(0), one("back", StarChart::back, 0));
        allowed(() -> kept(1), one("back", StarChart::back, 1));
        Supplier<StarChart> gone = () -> {
            StarChart x = Look.rich();
            x.chart();
            return x;
        };
        refused(STATE, gone, one("back", StarChart::back, 0, 1));
    }

    private static StarChart typed(int bytes) {
        StarChart x = new StarChart();
        Due.type(x, "child 60 6 5;" + " ".repeat(bytes - 13));
        return x;
    }

    // type: BAD; FULL.
    private static void fullText() {
        refused(FULL, () -> typed(400), one("type of bytes", (x, n) -> x.type(65, n), 1, 8));
        refused(BAD, () -> typed(400), one("type of bytes", (x, n) -> x.type(65, n), 0, 9, -1, LEAST, MOST));
        refused(FULL, () -> typed(399), one("type of bytes", (x, n) -> x.type(65, n), 2, 8));
        allowed(() -> typed(399), one("type of bytes", (x, n) -> x.type(65, n), 1));
        refused(FULL, () -> typed(393), one("type of bytes", (x, n) -> x.type(65, n), 8));
        allowed(() -> typed(393), one("type of bytes", (x, n) -> x.type(65, n), 1, 7));
        allowed(() -> typed(392), one("type of bytes", (x, n) -> x.type(65, n), 8));
    }

    private static StarChart tried(int many) {
        StarChart x = new StarChart();
        for (int i = 1; i <= many; i++) Due.is("trial " + i, x.trial(i % 8, i), i);
        return x;
    }

    // trial: BAD; FULL (30 at most).
    private static void fullTrials() {
        refused(FULL, () -> tried(30), two("trial", StarChart::trial, row(0, 0), row(7, 99), row(7, -99)));
        refused(BAD, () -> tried(30), two("trial", StarChart::trial, row(8, 0), row(-1, 0), row(0, 100), row(0, -100)));
        allowed(() -> tried(29), two("trial", StarChart::trial, row(0, 0), row(7, 99)));
        Due.is("thirty", tried(30).count(2), 30);
    }

    // FORETOLD: nothing is changed; nor by any call that only asks.
    private static void askingChangesNothing() {
        StarChart x = Look.rich(), y = Look.rich();
        for (int what = 0; what < 3; what++) {
            x.term(what);
            x.best(1, 30, what);
            x.rests(20, 9, what);
            x.blamed(20, what);
            x.joined(255, what);
            x.ahead(what, what);
        }
        for (int n = 0; n < 100; n += 33) {
            x.end(n);
            x.line(5, 5, n);
            x.ending(n);
            x.checks(n);
            x.given(0, n);
        }
        for (int c = 0; c < 3; c++) {
            for (int s = 0; s < 2; s++) {
                x.stays(c, s);
                x.want(c, s, 3);
            }
            x.choice(c);
        }
        x.easy();
        x.parts();
        x.count(0);
        x.trace();
        Due.alike("behind what only asks", x, y);
    }
}
