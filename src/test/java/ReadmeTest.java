import java.io.IOException;
import java.nio.file.Files;
import java.nio.file.Path;
import java.util.List;

/** README.md: its example is the one here, line by line, and answers what is said there. */
final class ReadmeTest {
    private static final Path PAGE = Path.of("README.md"), SELF = Path.of("src/test/java/ReadmeTest.java");

    public static void main(String[] args) throws IOException {
        example();
        Due.fault("child 60 6;", 10);
        Due.of("child 60 6 5;book 2 4;plan 1 3 after thin 1;pay 0 2;");
        sameLines();
        Due.close("ReadmeTest");
    }

    // Day 0: no stars; joys 24 and 48, so the second sort: liking 61. Day 1: 180 stars of 204 for the first sort:
    // 61 + 1 - 5 = 57, worth 90. Day 2: 162 of 184: 57 + 1 - 5 = 53.
    private static void example() {
        StarChart chart = new StarChart();
        String text = "child 60 6 5;book 2 4;book 9 8;plan 1 3 thin 1;pay 0 2;";
        for (int i = 0; i < text.length(); i++) chart.type(text.charAt(i), 1);
        int items = chart.chart();
        int days = chart.go(3);
        int liking = chart.child(0, 3);
        int best = chart.best(0, 30, 0);
        Due.is("items", items, 5);
        Due.is("days", days, 3);
        Due.is("liking", liking, 53);
        Due.is("best", best, 0);
    }

    private static void sameLines() throws IOException {
        String page = Files.readString(PAGE);
        int start = page.indexOf("```java\n"), end = page.indexOf("\n```\n", start);
        Due.yes("README.md has an example", start >= 0 && end > start);
        if (start < 0 || end <= start) return;
        List<String> here = Files.readAllLines(SELF).stream().map(String::strip).toList();
        for (String line : page.substring(start + 8, end).split("\n")) {
            String call = line.replaceAll(" *// .*", "");
            Due.yes("asked here: " + call, here.contains(call));
            if (call.startsWith("int ")) answerIsTold(line, call);
        }
    }

    /** What README.md says behind the call is what is due above. */
    private static void answerIsTold(String line, String call) throws IOException {
        String name = call.substring(4, call.indexOf(" ="));
        String told = line.replaceAll(".*// (\\d+).*", "$1");
        Due.yes(name + " is told as " + told,
            Files.readString(SELF).contains("Due.is(\"" + name + "\", " + name + ", " + told + ");"));
    }
}
