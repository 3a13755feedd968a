import java.nio.charset.StandardCharsets;
import java.nio.file.Files;
import java.nio.file.Path;
import java.util.regex.Matcher;
import java.util.regex.Pattern;

/** The program keeps to the rules of LANGUAGE.md that can be seen in its text. */
public final class LanguageTest {
    private static final int MOST_METHOD_LINES = 60;
    private static final int MOST_CLASSES = 12;

    public static void main(String[] args) throws Exception {
        Due due = new Due("LanguageTest");
        Path file = Path.of("src/main/java/SlipperFits.java");
        String source = Files.readString(file, StandardCharsets.ISO_8859_1);
        String code = source.replaceAll("(?s)/\\*.*?\\*/", " ").replaceAll("//[^\n]*", " ")
            .replaceAll("\"[^\"\n]*\"", "\"\"").replaceAll("'[^'\n]'", "' '");
        String[] barred = {"\\bthrow\\b", "\\bthrows\\b", "\\btry\\b", "\\bcatch\\b", "\\bsynchronized\\b", "\\bassert\\b",
            "\\bimport\\b", "\\bpackage\\b", "->", "::", "\\bvar\\b", "\\bObject\\b", "\\bSystem\\.(?!arraycopy)", "Exact\\b",
            "\\bprotected\\b", "\\byield\\b", "\\bwhile \\(true\\)", "\\bstatic \\{", "@\\w+"};
        for (String word : barred) {
            due.holds("without " + word, !Pattern.compile(word).matcher(code).find());
        }
        for (int i = 0; i < source.length(); i++) {
            if (source.charAt(i) > 126) {
                due.holds("a sign over 126 at " + i, false);
            }
        }
        Matcher classes = Pattern.compile("\\bclass \\w+").matcher(code);
        int count = 0;
        while (classes.find()) {
            count++;
        }
        due.holds(count + " classes", count <= MOST_CLASSES);
        lookAtMethods(due, code);
        due.end();
    }

    private static void lookAtMethods(Due due, String code) {
        Pattern head = Pattern.compile("^( +)(?:\\w+(?:\\[\\])? )+(\\w+)\\(([^)]*)\\) \\{$");
        String[] lines = code.split("\n");
        for (int i = 0; i < lines.length; i++) {
            Matcher m = head.matcher(lines[i]);
            if (!m.matches() || lines[i].contains("else if")) {
                continue;
            }
            int end = i;
            while (end < lines.length && !lines[end].equals(m.group(1) + "}")) {
                end++;
            }
            due.holds(m.group(2) + " is short", end - i <= MOST_METHOD_LINES);
            due.holds(m.group(2) + " has seven parameters at most", m.group(3).split(",").length <= 7);
        }
    }
}
