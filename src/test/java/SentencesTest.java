import java.nio.charset.StandardCharsets;
import java.nio.file.DirectoryStream;
import java.nio.file.Files;
import java.nio.file.Path;
import java.util.ArrayList;
import java.util.List;
import java.util.regex.Matcher;
import java.util.regex.Pattern;

/**
 * The tests quote the document by says("..."): each quotation is in it, and together they leave out no word of its
 * terms and promises, so that each of its sentences has a test of its own.
 */
public final class SentencesTest {
    private static final Due DUE = new Due("SentencesTest");
    private static final Pattern QUOTED = Pattern.compile("\\.says\\(((?:\\s*\\+?\\s*\"(?:[^\"\\\\]|\\\\.)*\")+)\\)");

    /** What tells how to read the document, and nothing that a call could answer otherwise. */
    private static final String[] NOT_TO_BE_TESTED = {"Words in capitals are told where they come first.", "All numbers are whole;"};

    public static void main(String[] args) throws Exception {
        Path file = Path.of("../shared/DOC.md");
        if (!Files.exists(file)) {
            System.out.println("SentencesTest: no document here, so its quotations are not looked at");
            return;
        }
        String document = termsAndPromises(Files.readString(file, StandardCharsets.UTF_8));
        boolean[] quoted = new boolean[document.length()];
        List<String> quotations = quotations();
        DUE.holds(quotations.size() + " quotations", quotations.size() > 100);
        for (String words : quotations) {
            DUE.holds("the document has: " + words, mark(document, words, quoted));
        }
        for (String words : NOT_TO_BE_TESTED) {
            DUE.holds("the document has: " + words, mark(document, words, quoted));
        }
        for (String left : leftOut(document, quoted)) {
            DUE.holds("no test quotes: " + left, false);
        }
        DUE.end();
    }

    /** From "Terms" to the last promise, without headings, signatures, fences and what the interface says. */
    private static String termsAndPromises(String whole) {
        int begin = whole.indexOf("\n## Terms");
        int end = whole.indexOf("\n## Not promised");
        DUE.holds("the document has Terms, and what is not promised", begin >= 0 && end > begin);
        StringBuilder kept = new StringBuilder();
        for (String line : whole.substring(begin, end).split("\n")) {
            if (!line.startsWith("#") && !line.startsWith("```") && !line.startsWith("Ahead of the calls")) {
                kept.append(line.replaceFirst("^`[^`]*`: ", "").replaceFirst("^=+ \\d+ ", "")).append(' ');
            }
        }
        return narrow(kept.toString());
    }

    private static String narrow(String text) {
        return text.replaceAll("\\s+", " ");
    }

    private static List<String> quotations() throws Exception {
        List<String> all = new ArrayList<>();
        try (DirectoryStream<Path> tests = Files.newDirectoryStream(Path.of("src/test/java"), "*Test.java")) {
            for (Path test : tests) {
                Matcher m = QUOTED.matcher(Files.readString(test, StandardCharsets.UTF_8));
                while (m.find()) {
                    all.add(narrow(m.group(1).replaceAll("\"\\s*\\+\\s*\"", "").trim().replaceAll("^\"|\"$", "")));
                }
            }
        }
        return all;
    }

    private static boolean mark(String document, String words, boolean[] quoted) {
        boolean found = false;
        for (int at = document.indexOf(words); at >= 0; at = document.indexOf(words, at + 1)) {
            found = true;
            for (int i = 0; i < words.length(); i++) {
                quoted[at + i] = true;
            }
        }
        return found;
    }

    private static List<String> leftOut(String document, boolean[] quoted) {
        List<String> all = new ArrayList<>();
        for (int i = 0; i < document.length(); i++) {
            int from = i;
            while (i < document.length() && !quoted[i]) {
                i++;
            }
            String left = document.substring(from, i);
            if (left.matches(".*\\w.*")) {
                all.add(left);
            }
        }
        return all;
    }
}
