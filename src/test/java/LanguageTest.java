import java.lang.reflect.Field;
import java.lang.reflect.Modifier;
import java.nio.charset.StandardCharsets;
import java.nio.file.Files;
import java.nio.file.Path;
import java.util.Arrays;
import java.util.HashSet;
import java.util.Map;
import java.util.Set;
import java.util.TreeMap;
import java.util.regex.Matcher;
import java.util.regex.Pattern;

/** The program keeps to the rules of LANGUAGE.md that can be seen in its text. */
public final class LanguageTest {
    private static final int MOST_METHOD_LINES = 60;
    private static final int MOST_CLASSES = 12;
    private static final int DEEPEST = 8;
    private static final int MOST_FIELDS = 20;

    public static void main(String[] args) throws Exception {
        Due due = new Due("LanguageTest");
        Path file = Path.of("src/main/java/SlipperFits.java");
        String source = Files.readString(file, StandardCharsets.ISO_8859_1);
        String code = source.replaceAll("(?s)/\\*.*?\\*/", " ").replaceAll("//[^\n]*", " ")
            .replaceAll("\"[^\"\n]*\"", "\"\"").replaceAll("'[^'\n]'", "' '");
        String[] barred = {"\\bthrow\\b", "\\bthrows\\b", "\\btry\\b", "\\bcatch\\b", "\\bsynchronized\\b", "\\bassert\\b",
            "\\bimport\\b", "\\bpackage\\b", "->", "::", "\\bvar\\b", "\\bObject\\b", "\\bSystem\\.(?!arraycopy)", "Exact\\b",
            "\\bprotected\\b", "\\byield\\b", "\\bwhile \\(true\\)", "\\bstatic \\{", "@\\w+"};
        for (String word : barred) {
            due.holds("without " + word, !Pattern.compile(word).matcher(code).find());
        }
        for (int i = 0; i < source.length(); i++) {
            if (source.charAt(i) > 126) {
                due.holds("a sign over 126 at " + i, false);
            }
        }
        Matcher classes = Pattern.compile("\\bclass \\w+").matcher(code);
        int count = 0;
        while (classes.find()) {
            count++;
        }
        due.holds(count + " classes", count <= MOST_CLASSES);
        lookAtMethods(due, code);
        lookAtFields(due, SlipperFits.class);
        for (Class<?> inside : SlipperFits.class.getDeclaredClasses()) {
            due.holds(inside.getName() + " is static", Modifier.isStatic(inside.getModifiers()));
            lookAtFields(due, inside);
        }
        due.end();
    }

    private static void lookAtFields(Due due, Class<?> c) {
        int fields = 0;
        for (Field f : c.getDeclaredFields()) {
            boolean constant = Modifier.isStatic(f.getModifiers());
            fields += constant ? 0 : 1;
            due.holds(c.getName() + "'s " + f.getName() + " is no static state", !constant || Modifier.isFinal(f.getModifiers()));
        }
        due.holds(c.getName() + " has " + fields + " fields", fields <= MOST_FIELDS);
    }

    private static void lookAtMethods(Due due, String code) {
        Pattern head = Pattern.compile("^( +)(?:\\w+(?:\\[\\])? )+(\\w+)\\(([^)]*)\\) \\{$");
        String[] lines = code.split("\n");
        for (int i = 0; i < lines.length; i++) {
            Matcher m = head.matcher(lines[i]);
            if (!m.matches() || lines[i].contains("else if")) {
                continue;
            }
            int end = i;
            while (end < lines.length && !lines[end].equals(m.group(1) + "}")) {
                end++;
            }
            due.holds(m.group(2) + " is short", end - i <= MOST_METHOD_LINES);
            due.holds(m.group(2) + " has seven parameters at most", m.group(3).split(",").length <= 7);
            String body = String.join("\n", Arrays.copyOfRange(lines, i + 1, end));
            boolean constructor = Character.isUpperCase(m.group(2).charAt(0));
            due.holds(m.group(2) + " makes no objects: all calls of a run live in one room", constructor || !body.contains("new "));
            addCalls(m.group(2), body);
        }
        for (String method : CALLS.keySet()) {
            int deep = depth(method, 1);
            due.holds(method + " goes " + deep + " deep", deep <= DEEPEST);
        }
    }

    /** By name alone: methods of one name in two classes count as one, which can only make it deeper. */
    private static final Map<String, Set<String>> CALLS = new TreeMap<>();

    private static void addCalls(String method, String body) {
        Set<String> calls = CALLS.computeIfAbsent(method, name -> new HashSet<>());
        Matcher m = Pattern.compile("(\\w+)\\(").matcher(body);
        while (m.find()) {
            calls.add(m.group(1));
        }
    }

    /** Library calls, which have no body here, count as one more; a recursion would end at 50. */
    private static int depth(String method, int level) {
        int deepest = level;
        if (level < 50 && CALLS.containsKey(method)) {
            for (String called : CALLS.get(method)) {
                deepest = Math.max(deepest, depth(called, level + 1));
            }
        }
        return deepest;
    }
}
