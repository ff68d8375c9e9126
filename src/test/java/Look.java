import java.util.ArrayList;
import java.util.List;

/** All that can be seen of an object. To look changes it: what was kept or typed is seen only by going back to it. */
final class Look {
    private final StarChart x;
    private final List<Long> seen = new ArrayList<>();

    private Look(StarChart x) {
        this.x = x;
    }

    static List<Long> of(StarChart x) {
        Look look = new Look(x);
        look.atClass();
        look.atNow();
        look.atTrials();
        look.atTunes();
        look.atImages();
        look.atText();
        return look.seen;
    }

    /** An object of which there is something of all to see: 3 children, 2 sorts, day 3, both images, trials, a text. */
    static StarChart rich() {
        StarChart x = Due.of("child 60 6 5;child 20 3 2;child 35 4 9;book 2 4;book 9 8;plan 1 4 thin 2;pay 0 2;pay 1 1;");
        x.go(1);
        x.lot(5);
        x.keep(1);
        x.go(1);
        x.lot(-6);
        x.keep(0);
        x.go(1);
        x.lot(77);
        for (int what = 0; what < 6; what++) x.tune(what, what + 3);
        x.trial(0, 10);
        x.trial(3, -20);
        x.trial(7, 5);
        x.rate(4, 0);
        Due.type(x, "child 7 8 9;book 3 2;plan 1 2;");
        return x;
    }

    private void add(long v) {
        seen.add(v);
    }

    private void atClass() {
        for (int what = 0; what < 4; what++) add(x.count(what));
        for (int what = 0; what < 4; what++) add(x.plan(what));
        for (int c = 0; c < 8; c++) for (int what = 0; what < 3; what++) add(x.child(c, what));
        for (int s = 0; s < 4; s++) for (int what = 0; what < 3; what++) add(x.book(s, what));
    }

    private void atNow() {
        for (int what = 0; what < 5; what++) add(x.now(what));
        for (int c = 0; c < 8; c++) {
            add(x.choice(c));
            for (int what = 3; what < 6; what++) add(x.child(c, what));
        }
    }

    private void atTrials() {
        for (int sort = 0; sort < 8; sort++) {
            add(x.joined(1 << sort, 0));
            add(x.joined(1 << sort, 1));
        }
        add(x.parts());
        add(x.trace());
    }

    private void atTunes() {
        for (int what = 0; what < 6; what++) add(x.tune(what, 0));
    }

    private void atImages() {
        add(x.lot(0));
        for (int image = 0; image < 2; image++) {
            add(x.back(image));
            add(x.lot(0));
            atNow();
        }
    }

    private void atText() {
        add(x.chart());
        atClass();
        atNow();
    }
}
