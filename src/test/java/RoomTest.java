import java.lang.management.ManagementFactory;

/** What a run makes: rows are made with the object, and no call makes any (LANGUAGE.md, rule 12). */
final class RoomTest {
    private static final com.sun.management.ThreadMXBean THREADS =
        (com.sun.management.ThreadMXBean) ManagementFactory.getThreadMXBean();
    private static long sink = 0;

    public static void main(String[] args) {
        StarChart x = Due.of("child 60 6 5;".repeat(8) + "book 2 4;book 9 8;book 3 3;book 4 4;plan 0 9 thin 5;pay 0 9;");
        for (int i = 0; i < 3; i++) allCalls(x);
        long before = made();
        for (int i = 0; i < 10; i++) allCalls(x);
        long bytes = made() - before;
        Due.yes("calls make nothing: " + bytes + " bytes", bytes < 4096);
        StarChart[] kept = new StarChart[100];
        before = made();
        for (int i = 0; i < 100; i++) kept[i] = new StarChart();
        long each = (made() - before) / 100;
        Due.yes("a new object is small: " + each + " bytes", each < 16384);
        Due.yes("all were used", sink != 0 && kept[99] != null);
        Due.close("RoomTest");
    }

    private static long made() {
        return THREADS.getThreadAllocatedBytes(Thread.currentThread().getId());
    }

    private static void allCalls(StarChart x) {
        for (int a = -1; a < 9; a++) {
            for (int b = -1; b < 7; b++) {
                sink += x.child(a, b) + x.book(a, b) + x.plan(b) + x.tune(a, b) + x.given(a, b) + x.now(b) + x.count(b);
                sink += x.choice(a) + x.want(a, b, 3) + x.stays(a, b) + x.rests(a, b, 0) + x.blamed(a, b) + x.checks(b);
                sink += x.trial(a, b) + x.joined(b, 0) + x.parts() + x.ahead(b, 1) + x.halves(b) + x.lot(b) + x.rate(b, a);
                sink += x.keep(b) + x.back(b) + x.trace() + x.easy() + x.end(b) + x.ending(b) + x.line(a, b, 9) + x.term(b);
            }
            sink += x.best(a, 12, 0) + x.go(3) + x.anew() + x.clear() + x.type(0x6368696c64203b3bL, 8) + x.chart();
        }
    }
}
