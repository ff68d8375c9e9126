/** What is due: counts the answers that are not, and ends the test with exit code 1 if there was one. */
final class Due {
    private static int asked = 0, wrong = 0;

    private Due() { }

    static void is(String call, long got, long want) {
        asked++;
        if (got == want) return;
        wrong++;
        System.out.println(call + " answered " + got + ", due is " + want);
    }

    static void yes(String what, boolean held) {
        is(what, held ? 1 : 0, 1);
    }

    /** All that can be seen of the two must be the same; neither is of use behind it. */
    static void alike(String when, StarChart x, StarChart y) {
        yes("nothing else " + when, Look.of(x).equals(Look.of(y)));
    }

    static void close(String test) {
        System.out.println(test + ": " + (asked - wrong) + " of " + asked + " answers are as due");
        if (wrong != 0 || asked == 0) System.exit(1);
    }

    /** The text comes to THE TEXT, eight bytes a call. */
    static void type(StarChart x, String text) {
        for (int i = 0; i < text.length(); i += 8) {
            int n = Math.min(8, text.length() - i);
            long v = 0;
            for (int j = 0; j < n; j++) v = v << 8 | text.charAt(i + j) & 255;
            x.type(v, n);
        }
    }

    /** What chart() answers to this text; THE TEXT is empty then, or stays, if there is a fault. */
    static StarChart chart(String text, int want) {
        StarChart x = new StarChart();
        type(x, text);
        is("chart() of '" + text + "'", x.chart(), want);
        is("bytes behind '" + text + "'", x.count(3), want < 0 ? text.length() : 0);
        return x;
    }

    /** What chart() answers to this text whose first fault is here. */
    static void fault(String text, int place) {
        chart(text, -10 - place);
    }

    /** A new object that has read this text, which must be without fault. */
    static StarChart of(String text) {
        StarChart x = new StarChart();
        type(x, text);
        yes("chart() of '" + text + "' without fault", x.chart() >= 0);
        return x;
    }
}
