import java.lang.reflect.Method;
import java.lang.reflect.Modifier;
import java.nio.charset.StandardCharsets;
import java.nio.file.DirectoryStream;
import java.nio.file.Files;
import java.nio.file.Path;
import java.util.regex.Matcher;
import java.util.regex.Pattern;

/** README.md: its example answers what it says, it names every call and every test, and how to run them. */
public final class ReadmeTest {
    private static final Due DUE = new Due("ReadmeTest");
    private static final Pattern EXAMPLE = Pattern.compile("```java\n(.*?)```", Pattern.DOTALL);
    private static final Pattern TEXT = Pattern.compile("String text = \"([^\"]*)\";");
    private static final Pattern ANSWERED = Pattern.compile("^x\\.(\\w+)\\(([^)]*)\\);\\s*// (-?\\d+)(?!\\d)");

    public static void main(String[] args) throws Exception {
        String page = Files.readString(Path.of("README.md"), StandardCharsets.UTF_8);
        DUE.holds("it says how to run the tests", page.contains("\n.ci/run\n"));
        answersAsItSays(page);
        namesEveryCall(page);
        namesEveryTest(page);
        DUE.end();
    }

    private static void answersAsItSays(String page) throws Exception {
        Matcher example = EXAMPLE.matcher(page);
        Matcher text = TEXT.matcher(page);
        DUE.holds("there is an example with a text", example.find() && text.find());
        SlipperFits x = new SlipperFits();
        for (char c : text.group(1).toCharArray()) {
            x.feed(c);
        }
        int answers = 0;
        for (String line : example.group(1).split("\n")) {
            Matcher m = ANSWERED.matcher(line);
            if (m.find()) {
                answers++;
                DUE.is(line, ask(x, m.group(1), m.group(2)), Integer.parseInt(m.group(3)));
            } else {
                DUE.holds("an answer stands behind " + line, !line.startsWith("x."));
            }
        }
        DUE.holds(answers + " answers", answers > 20);
    }

    private static int ask(SlipperFits x, String name, String arguments) throws Exception {
        String[] cut = arguments.isEmpty() ? new String[0] : arguments.split(", ");
        Object[] values = new Object[cut.length];
        Class<?>[] types = new Class<?>[cut.length];
        for (int i = 0; i < cut.length; i++) {
            boolean number = cut[i].matches("-?\\d+");
            types[i] = number ? int.class : boolean.class;
            values[i] = number ? (Object) Integer.valueOf(cut[i]) : (Object) Boolean.valueOf(cut[i]);
        }
        return (Integer) SlipperFits.class.getMethod(name, types).invoke(x, values);
    }

    private static void namesEveryCall(String page) {
        for (Method m : SlipperFits.class.getDeclaredMethods()) {
            if (Modifier.isPublic(m.getModifiers())) {
                DUE.holds("it names " + m.getName(), page.contains("`" + m.getName() + "`"));
            }
        }
    }

    private static void namesEveryTest(String page) throws Exception {
        try (DirectoryStream<Path> tests = Files.newDirectoryStream(Path.of("src/test/java"), "*Test.java")) {
            for (Path test : tests) {
                String name = test.getFileName().toString().replace(".java", "");
                DUE.holds("it names " + name, page.contains("| " + name + " |"));
            }
        }
    }
}
