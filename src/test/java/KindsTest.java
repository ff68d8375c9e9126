/** Promises 31 to 33 and 35: pay by kinds, images, the trace. */
final class KindsTest {
    private static final String TWO = "child 60 6 5;child 20 3 2;book 2 4;book 9 8;plan 1 3 thin 1;pay 0 2;";

    public static void main(String[] args) {
        rates();
        ratesRefused();
        trace();
        images();
        imagesRefused();
        imagesKeepNothingElse();
        Due.close("KindsTest");
    }

    private static void rates() {
        StarChart x = Due.of(TWO);
        x.go(3);
        // Likings of 53 and 15, 40 and 20 pages, 72 and 36 stars, a worth of 84.
        int[][] want = {{72, 19, 125, 59, 118, 156}, {36, 21, 51, 41, 82, 120}};
        for (int c = 0; c < 2; c++) {
            for (int kind = 0; kind < 6; kind++) Due.is("rate(" + kind + ", " + c + ")", x.rate(kind, c), want[c][kind]);
        }
        Due.is("below 0", Due.of("child 60 6 5;").rate(4, 0), -120);
    }

    private static void ratesRefused() {
        StarChart x = Due.of(TWO);
        int[][] bad = {{-1, 0}, {6, 0}, {0, -1}, {0, 2}, {4, 2}, {Integer.MIN_VALUE, Integer.MAX_VALUE}};
        for (int[] row : bad) Due.is("rate", x.rate(row[0], row[1]), StarChart.NO);
        Due.is("nothing asked", x.trace(), 0);
        Due.is("nobody", new StarChart().rate(0, 0), StarChart.NO);
    }

    private static void trace() {
        StarChart x = Due.of(TWO);
        int[] asks = {1, 11, 101, 1011, 11011, 100001};
        long sum = 0;
        Due.is("at first", x.trace(), 0);
        for (int kind = 0; kind < 6; kind++) {
            x.rate(kind, kind % 2);
            sum += asks[kind];
            Due.is("trace behind kind " + kind, x.trace(), sum);
        }
        x.keep(0);
        x.rate(4, 0);
        x.back(0);
        Due.is("it goes on behind back()", x.trace(), sum + 11011);
        x.anew();
        x.go(5);
        Due.is("and behind days", x.trace(), sum + 11011);
    }

    private static void look(StarChart x, int day, int worth, int likings, int pages, int stars) {
        int[] want = {day, worth, likings, pages, stars};
        for (int what = 0; what < 5; what++) Due.is("now(" + what + ")", x.now(what), want[what]);
    }

    private static void images() {
        StarChart x = Due.of(TWO);
        x.go(2);
        x.lot(77);
        Due.is("keep", x.keep(0), 2);
        x.go(2);
        x.lot(88);
        Due.is("keep", x.keep(1), 4);
        x.go(9);
        x.lot(99);
        Due.is("back", x.back(0), 2);
        look(x, 2, 92, 75, 33, 54);
        Due.is("first liking", x.child(0, 3), 57);
        Due.is("second pages", x.child(1, 4), 11);
        Due.is("second stars", x.child(1, 5), 18);
        Due.is("the lot", x.lot(5), 77);
        x.go(1);
        Due.is("forward", x.back(1), 4);
        look(x, 4, 80, 62, 87, 135);
        Due.is("the lot", x.lot(5), 88);
        Due.is("again", x.back(0), 2);
        look(x, 2, 92, 75, 33, 54);
        x.go(1);
        Due.is("kept anew", x.keep(0), 3);
        x.anew();
        Due.is("the later one", x.back(0), 3);
        look(x, 3, 84, 68, 60, 108);
        Due.is("the other is as it was", x.back(1), 4);
        look(x, 4, 80, 62, 87, 135);
    }

    private static void imagesRefused() {
        StarChart x = Due.of(TWO);
        Due.is("image 2", x.keep(2), StarChart.BAD);
        Due.is("image -1", x.keep(-1), StarChart.BAD);
        Due.is("image 2", x.back(2), StarChart.BAD);
        Due.is("image -1", x.back(-1), StarChart.BAD);
        Due.is("none yet", x.back(0), StarChart.STATE);
        Due.is("kept", x.keep(0), 0);
        Due.is("the other not", x.back(1), StarChart.STATE);
        Due.is("kept", x.back(0), 0);
    }

    private static void imagesKeepNothingElse() {
        StarChart x = Due.of(TWO);
        x.keep(0);
        x.tune(0, 44);
        x.trial(1, 1);
        Due.type(x, "abc");
        x.go(3);
        x.back(0);
        Due.is("tunes", x.tune(0, 10), 44);
        Due.is("trials", x.count(2), 1);
        Due.is("the text", x.count(3), 3);
        Due.is("the day", x.now(0), 0);
    }
}
