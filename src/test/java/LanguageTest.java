import java.io.IOException;
import java.nio.file.Files;
import java.nio.file.Path;
import java.util.List;
import java.util.Set;
import java.util.TreeSet;
import java.util.regex.Matcher;
import java.util.regex.Pattern;

/** What the text of the class may hold (LANGUAGE.md, rules 3 to 6 and 10 to 12), as far as its words tell. */
final class LanguageTest {
    private static final Path SOURCE = Path.of("src/main/java/StarChart.java");
    private static final Set<String> LIBRARY =
        Set.of("Math.max", "Math.min", "Math.abs", "System.arraycopy");

    public static void main(String[] args) throws IOException {
        String text = Files.readString(SOURCE);
        Due.yes("signs 10 and 32 to 126 alone", text.matches("[\\n -~]*"));
        String bare = text.replaceAll("(?s)/\\*.*?\\*/", "").replaceAll("//[^\\n]*", "").replaceAll("\"[^\"\\n]*\"", "\"\"");
        words(bare);
        library(bare);
        objects(bare);
        lengths(bare);
        Due.close("LanguageTest");
    }

    private static void words(String bare) {
        List<String> none = List.of("\\bpackage\\b", "\\bimport\\b", "\\bthrows?\\b", "\\btry\\b", "\\bcatch\\b", "\\bfinally\\b",
            "\\bsynchronized\\b", "\\bassert\\b", "\\bvolatile\\b", "\\bnative\\b", "\\bprotected\\b", "\\bfloat\\b", "\\bdouble\\b",
            "\\binstanceof\\b", "\\bvar\\b", "->", "::", "static \\{", "\\.equals\\b", "hashCode", "toString", "@");
        for (String word : none) Due.yes("no " + word, !Pattern.compile(word).matcher(bare).find());
    }

    private static void library(String bare) {
        Matcher m = Pattern.compile("\\b[A-Z][A-Za-z]*\\.[a-z][A-Za-z]*").matcher(bare);
        Set<String> other = new TreeSet<>();
        while (m.find()) if (!LIBRARY.contains(m.group()) && !m.group().equals("Course.sumOf")) other.add(m.group());
        Due.yes("no other library: " + other, other.isEmpty());
    }

    /** Rows and objects are made with the object that holds them, and by no call. */
    private static void objects(String bare) {
        for (String line : bare.split("\n")) {
            if (line.contains("new ")) Due.yes("a field's: " + line, line.matches(" +(private )?final [A-Za-z\\[\\]]+ [a-z]+ = new [^;]*;"));
        }
    }

    private static void lengths(String bare) {
        Pattern head = Pattern.compile("^( +)[a-zA-Z\\[\\] ]+\\([a-zA-Z0-9\\[\\], ]*\\) \\{$");
        String[] lines = bare.split("\n");
        int methods = 0;
        for (int i = 0; i < lines.length; i++) {
            Matcher m = head.matcher(lines[i]);
            if (!m.matches() || m.group(1).length() > 8 || lines[i].contains(" if ")) continue;
            int end = i;
            while (end < lines.length && !lines[end].equals(m.group(1) + "}")) end++;
            methods++;
            Due.yes("short: " + lines[i].strip(), end < lines.length && end - i <= 40);
        }
        Due.yes("methods were found", methods > 60);
    }
}
