import java.math.BigInteger;
import java.util.ArrayList;
import java.util.Arrays;
import java.util.List;
import java.util.function.IntUnaryOperator;
import java.util.regex.Matcher;
import java.util.regex.Pattern;

/** The document once more, in another manner than the class: slow, with new objects for all, to compare answers with. */
final class Model {
    static final int BAD = -1, STATE = -2, FULL = -3, NONE = -9, NO = -1000000;

    record Kid(int liking, int able, int take) { }

    record Book(int hard, int joy) { }

    record Told(List<Kid> kids, List<Book> books, int from, int until, boolean ahead, int thin, int[] pay) {
        Told pays(IntUnaryOperator of) {
            int[] other = new int[4];
            for (int s = 0; s < 4; s++) other[s] = of.applyAsInt(s);
            return new Told(kids, books, from, until, ahead, thin, other);
        }

        Told until(int u) { return new Told(kids, books, from, u, ahead, thin, pay); }

        Told thin(int w) { return new Told(kids, books, from, until, ahead, w, pay); }

        Told kids(List<Kid> others) { return new Told(others, books, from, until, ahead, thin, pay); }

        int given(int s, int day) {
            if (from <= day && day < until) return pay[s];
            if (until <= day && day < until + thin) return pay[s] * (until + thin - day) / (thin + 1);
            return 0;
        }

        int pages(int c, int s) { return 6 * kids.get(c).able() / books.get(s).hard(); }
    }

    record Now(int day, int worth, List<Integer> likings, List<Integer> pages, List<Integer> stars) { }

    private record Image(Now now, int lot) { }

    private static final class Fault extends Exception {
        private static final long serialVersionUID = 1;
        final int place;

        Fault(int place) { this.place = place; }
    }

    private Told told = new Told(List.of(), List.of(), 0, 0, true, 0, new int[4]);
    private Now now = first(told);
    private final int[] tune = {10, 1, 6, 2, 3, 1};
    private String text = "";
    private final List<int[]> trials = new ArrayList<>();
    private int lot = 1;
    private long trace = 0;
    private Image[] images = new Image[2];

    private static boolean in(int v, int a, int b) { return a <= v && v <= b; }

    private boolean kid(int c) { return in(c, 0, told.kids().size() - 1); }

    private boolean sort(int s) { return in(s, 0, told.books().size() - 1); }

    private static int sum(List<Integer> row) { return row.stream().mapToInt(Integer::intValue).sum(); }

    private static int bound(int v) { return v < 0 ? 0 : v > 100 ? 100 : v; }

    // ---- days

    static Now first(Told t) {
        List<Integer> likings = t.kids().stream().map(Kid::liking).toList();
        List<Integer> none = t.kids().stream().map(k -> 0).toList();
        return new Now(0, 100, likings, none, none);
    }

    static int joys(Told t, Now w, int c, int s) { return t.books().get(s).joy() * w.likings().get(c) / 10; }

    static int stars(Told t, Now w, int c, int s) {
        return t.pages(c, s) * t.given(s, w.day()) * t.kids().get(c).take() * w.worth() / 100;
    }

    static int want(Told t, Now w, int c, int s) { return joys(t, w, c, s) + (t.ahead() ? stars(t, w, c, s) : 0); }

    int choice(Told t, Now w, int c) {
        int found = NONE;
        for (int s = t.books().size() - 1; s >= 0; s--) {
            if (want(t, w, c, s) >= tune[0] && (found == NONE || want(t, w, c, s) >= want(t, w, c, found))) found = s;
        }
        return found;
    }

    Now next(Told t, Now w) {
        List<Integer> likings = new ArrayList<>(w.likings()), pages = new ArrayList<>(w.pages()), stars = new ArrayList<>(w.stars());
        int allStars = 0;
        for (int c = 0; c < t.kids().size(); c++) {
            int s = choice(t, w, c);
            if (s == NONE) continue;
            int read = t.pages(c, s), had = read * t.given(s, w.day());
            int liking = w.likings().get(c);
            if (read >= 1) liking += tune[1];
            if (t.ahead() && stars(t, w, c, s) > 0) liking -= tune[2] * stars(t, w, c, s) / want(t, w, c, s);
            if (!t.ahead() && had > 0) liking += tune[3];
            likings.set(c, bound(liking));
            pages.set(c, pages.get(c) + read);
            stars.set(c, stars.get(c) + had);
            allStars += had;
        }
        int worth = w.worth();
        if (!t.kids().isEmpty()) worth -= tune[4] * allStars / (10 * t.kids().size());
        boolean nothing = true;
        for (int s = 0; s < t.books().size(); s++) nothing &= t.given(s, w.day()) == 0;
        if (nothing) worth += tune[5];
        return new Now(w.day() + 1, bound(worth), likings, pages, stars);
    }

    Now on(Told t, int n) {
        Now w = first(t);
        while (w.day() < n) w = next(t, w);
        return w;
    }

    int end(Told t, int n) { return sum(on(t, n).likings()); }

    // ---- the class

    int type(long v, int n) {
        if (n < 1 || n > 8) return BAD;
        if (text.length() + n > 400) return FULL;
        byte[] bytes = BigInteger.valueOf(v).toByteArray();
        for (int i = n; i >= 1; i--) {
            int b = i <= bytes.length ? bytes[bytes.length - i] : v < 0 ? -1 : 0;
            text += (char) (b & 255);
        }
        return text.length();
    }

    int clear() {
        int had = text.length();
        text = "";
        return had;
    }

    private static final Pattern TOKEN = Pattern.compile("[a-z]+|[0-9]+|[^ ]", Pattern.DOTALL);

    private List<String> tokens;
    private List<Integer> places;
    private int at;

    private String look() { return at < tokens.size() ? tokens.get(at) : ""; }

    private Fault fault() { return new Fault(at < places.size() ? places.get(at) : text.length()); }

    private void expect(String token) throws Fault {
        if (!look().equals(token)) throw fault();
        at++;
    }

    private int number(int least, int most) throws Fault {
        if (!look().matches("0|[1-9][0-9]?|100")) throw fault();
        int v = Integer.parseInt(look());
        if (v < least || v > most) throw fault();
        at++;
        return v;
    }

    private Told read() throws Fault {
        List<Kid> kids = new ArrayList<>();
        List<Book> books = new ArrayList<>();
        int[] pay = new int[4];
        int from = 0, until = 0, thin = 0;
        boolean ahead = true, planned = false;
        while (at < tokens.size()) {
            String word = look();
            if (word.equals("child") && kids.size() < 8) {
                at++;
                kids.add(new Kid(number(0, 100), number(1, 9), number(0, 9)));
            } else if (word.equals("book") && books.size() < 4) {
                at++;
                books.add(new Book(number(1, 9), number(0, 9)));
            } else if (word.equals("plan") && !planned) {
                at++;
                planned = true;
                from = number(0, 99);
                until = number(from, 99);
                if (look().equals("after")) { at++; ahead = false; }
                if (look().equals("thin")) { at++; thin = number(0, 20); }
            } else if (word.equals("pay")) {
                at++;
                int s = number(0, books.size() - 1);
                pay[s] = number(0, 9);
            } else throw fault();
            expect(";");
        }
        return new Told(kids, books, from, until, ahead, thin, pay);
    }

    int chart() {
        tokens = new ArrayList<>();
        places = new ArrayList<>();
        at = 0;
        Matcher m = TOKEN.matcher(text);
        while (m.find()) {
            tokens.add(m.group());
            places.add(m.start());
        }
        try {
            told = read();
        } catch (Fault f) {
            return -10 - f.place;
        }
        text = "";
        now = first(told);
        images = new Image[2];
        return (int) tokens.stream().filter(";"::equals).count();
    }

    int child(int c, int what) {
        if (!kid(c) || !in(what, 0, 5)) return BAD;
        Kid k = told.kids().get(c);
        return List.of(k.liking(), k.able(), k.take(), now.likings().get(c), now.pages().get(c), now.stars().get(c)).get(what);
    }

    int book(int s, int what) {
        if (!sort(s) || !in(what, 0, 2)) return BAD;
        return List.of(told.books().get(s).hard(), told.books().get(s).joy(), told.pay()[s]).get(what);
    }

    int plan(int what) {
        if (!in(what, 0, 3)) return BAD;
        return List.of(told.from(), told.until(), told.ahead() ? 1 : 0, told.thin()).get(what);
    }

    int tune(int what, int v) {
        int[] most = {99, 9, 20, 9, 20, 9};
        if (!in(what, 0, 5) || !in(v, 0, most[what])) return BAD;
        int was = tune[what];
        tune[what] = v;
        return was;
    }

    // ---- days

    int given(int s, int day) { return sort(s) && in(day, 0, 99) ? told.given(s, day) : BAD; }

    int want(int c, int s, int what) {
        if (!kid(c) || !sort(s) || !in(what, 0, 3)) return BAD;
        return List.of(told.pages(c, s), joys(told, now, c, s), stars(told, now, c, s), want(told, now, c, s)).get(what);
    }

    int choice(int c) { return kid(c) ? choice(told, now, c) : BAD; }

    int go(int n) {
        if (!in(n, 1, 99)) return BAD;
        if (now.day() == 99) return STATE;
        int was = now.day();
        for (int i = 0; i < n && now.day() < 99; i++) now = next(told, now);
        return now.day() - was;
    }

    int now(int what) {
        if (!in(what, 0, 4)) return BAD;
        return List.of(now.day(), now.worth(), sum(now.likings()), sum(now.pages()), sum(now.stars())).get(what);
    }

    int anew() {
        int was = now.day();
        now = first(told);
        return was;
    }

    // ---- foretold

    int term(int what) {
        if (!in(what, 0, 2)) return BAD;
        Told t = what == 2 ? told.pays(s -> 0) : told;
        int a = what == 0 ? told.from() : told.until() + told.thin(), b = what == 0 ? told.until() : a + 7;
        int pages = 0;
        for (int d = a; d < b && d < 99; d++) pages += sum(on(t, d + 1).pages()) - sum(on(t, d).pages());
        return pages;
    }

    int end(int n) { return in(n, 0, 99) ? end(told, n) : BAD; }

    int best(int sort, int n, int what) {
        if (!sort(sort) || !in(n, told.from(), 99) || !in(what, 0, 2)) return BAD;
        int[] best = null;
        for (int v = 0; v <= 9; v++) {
            int pay = v;
            for (int u = told.from(); u <= n; u++) {
                int end = end(told.until(u).pays(s -> s == sort ? pay : 0), n);
                if (best == null || end > best[2]) best = new int[] {v, u, end};
            }
        }
        return best[what];
    }

    int line(int able, int take, int n) {
        if (!in(able, 1, 9) || !in(take, 0, 9) || !in(n, 0, 99)) return BAD;
        for (int liking = 0; liking <= 100; liking++) {
            Told t = told.kids(List.of(new Kid(liking, able, take)));
            if (end(t, n) < end(t.pays(s -> 0), n)) return liking;
        }
        return NONE;
    }

    int ending(int n) {
        if (!in(n, 0, 99)) return BAD;
        int best = 20;
        for (int w = 20; w >= 0; w--) if (end(told.thin(w), n) >= end(told.thin(best), n)) best = w;
        return best;
    }

    int easy() {
        int least = told.books().stream().mapToInt(Book::hard).min().orElse(0), easiest = 0, many = 0;
        while (easiest < told.books().size() && told.books().get(easiest).hard() != least) easiest++;
        for (int c = 0; c < told.kids().size(); c++) if (choice(c) == easiest) many++;
        return many;
    }

    int stays(int c, int sort) {
        if (!kid(c) || !sort(sort)) return BAD;
        Now f = first(told);
        Now w = new Now(told.from(), 100, f.likings(), f.pages(), f.stars());
        for (int v = 0; v <= 9; v++) {
            int pay = v;
            if (choice(told.pays(s -> s == sort ? pay : told.pay()[s]), w, c) == sort) return v;
        }
        return NONE;
    }

    // ---- a jar, checks

    private int jarBook(int c) {
        int s = choice(told.pays(x -> 0), now, c);
        return s == NONE ? 0 : s;
    }

    private int jarPages(int set) {
        int sum = 0;
        for (int c = 0; c < told.kids().size(); c++) if (BigInteger.valueOf(set).testBit(c)) sum += told.pages(c, jarBook(c));
        return sum;
    }

    private int has(int m, int v, int set, int c) {
        int has = jarPages(set) >= m ? v * told.kids().get(c).take() * now.worth() / 100 : 0;
        return BigInteger.valueOf(set).testBit(c) ? has + joys(told, now, c, jarBook(c)) - tune[0] : has;
    }

    int rests(int m, int v, int what) {
        if (!in(m, 1, 999) || !in(v, 0, 99) || !in(what, 0, 1)) return BAD;
        if (told.books().isEmpty()) return STATE;
        List<Integer> rests = new ArrayList<>();
        for (int set = 0; set < Math.pow(2, told.kids().size()); set++) {
            boolean rest = true;
            for (int c = 0; c < told.kids().size(); c++) {
                int other = BigInteger.valueOf(set).flipBit(c).intValue();
                rest &= has(m, v, other, c) <= has(m, v, set, c);
            }
            if (rest) rests.add(set);
        }
        return what == 0 ? rests.size() : rests.isEmpty() ? NONE : rests.get(0);
    }

    int blamed(int m, int set) {
        if (!in(m, 1, 999) || set < 0 || set >= Math.pow(2, told.kids().size())) return BAD;
        if (told.books().isEmpty()) return STATE;
        for (int c = 0; c < told.kids().size() && jarPages(set) < m; c++) {
            BigInteger bits = BigInteger.valueOf(set);
            if (!bits.testBit(c) && jarPages(bits.setBit(c).intValue()) >= m) return c;
        }
        return NONE;
    }

    int checks(int f) {
        if (!in(f, 0, 99)) return BAD;
        for (int t = 0; t <= 10; t++) {
            boolean all = true;
            for (int c = 0; c < told.kids().size(); c++) {
                int s = choice(c);
                int stars = s == NONE ? 0 : told.pages(c, s) * told.given(s, now.day());
                all &= t * f >= (10 - t) * stars;
            }
            if (all) return t;
        }
        return 10;
    }

    // ---- trials, halves

    int trial(int sort, int came) {
        if (!in(sort, 0, 7) || !in(came, -99, 99)) return BAD;
        if (trials.size() == 30) return FULL;
        trials.add(new int[] {sort, came});
        return trials.size();
    }

    private static int part(List<int[]> some, int what) {
        if (some.isEmpty()) return NO;
        BigInteger upper = BigInteger.valueOf(some.stream().mapToInt(t -> t[1]).sum()), lower = BigInteger.valueOf(some.size());
        BigInteger by = upper.gcd(lower);
        return (what == 0 ? upper : lower).divide(by).intValue();
    }

    int joined(int sorts, int what) {
        if (!in(sorts, 0, 255) || !in(what, 0, 1)) return NO;
        return part(trials.stream().filter(t -> BigInteger.valueOf(sorts).testBit(t[0])).toList(), what);
    }

    int parts() {
        int found = NONE;
        long[] far = null;
        for (int bit : new int[] {1, 2, 4}) {
            List<int[]> with = trials.stream().filter(t -> (t[0] & bit) != 0).toList();
            List<int[]> without = trials.stream().filter(t -> (t[0] & bit) == 0).toList();
            if (with.isEmpty() || without.isEmpty()) continue;
            long a = part(with, 0), b = part(with, 1), c = part(without, 0), d = part(without, 1);
            long[] gap = {Math.abs(a * d - c * b), b * d};
            if (far == null || gap[0] * far[1] > far[0] * gap[1]) {
                far = gap;
                found = bit == 4 ? 2 : bit - 1;
            }
        }
        return found;
    }

    int ahead(int sort, int what) {
        if (!in(sort, 0, 7) || !in(what, 0, 1)) return NO;
        List<int[]> own = trials.stream().filter(t -> t[0] == sort).toList();
        return part(own.isEmpty() ? trials : own, what);
    }

    int halves(int n) {
        if (!in(n, 0, 99)) return NO;
        List<Kid> kids = new ArrayList<>();
        List<Boolean> paid = new ArrayList<>();
        for (Kid k : told.kids()) {
            lot = BigInteger.valueOf(lot).multiply(BigInteger.valueOf(1103515245)).add(BigInteger.valueOf(12345)).intValue();
            boolean odd = BigInteger.valueOf(lot).testBit(16);
            paid.add(odd);
            kids.add(odd ? k : new Kid(k.liking(), k.able(), 0));
        }
        Now w = on(told.kids(kids), n);
        int sum = 0;
        for (int c = 0; c < kids.size(); c++) sum += paid.get(c) ? w.likings().get(c) : -w.likings().get(c);
        return sum;
    }

    int lot(int v) {
        int was = lot;
        lot = v;
        return was;
    }

    // ---- kinds, images

    private int rated(int kind, int c) {
        int[] above = {-1, 0, 0, 1, 3, 0}, marks = {1, 10, 100, 1000, 10000, 100000};
        int up = kind == 0 ? 0 : rated(above[kind], c);
        trace += marks[kind];
        int[] rate = {now.stars().get(c), up - now.likings().get(c), up + now.likings().get(c), up + now.pages().get(c), up + up, up + now.worth()};
        return rate[kind];
    }

    int rate(int kind, int c) { return in(kind, 0, 5) && kid(c) ? rated(kind, c) : NO; }

    int keep(int image) {
        if (!in(image, 0, 1)) return BAD;
        images[image] = new Image(now, lot);
        return now.day();
    }

    int back(int image) {
        if (!in(image, 0, 1)) return BAD;
        if (images[image] == null) return STATE;
        now = images[image].now();
        lot = images[image].lot();
        return now.day();
    }

    int count(int what) {
        if (!in(what, 0, 3)) return BAD;
        return Arrays.asList(told.kids().size(), told.books().size(), trials.size(), text.length()).get(what);
    }

    long trace() { return trace; }
}
