import java.lang.reflect.Constructor;
import java.lang.reflect.Field;
import java.lang.reflect.Method;
import java.lang.reflect.Modifier;
import java.nio.charset.StandardCharsets;
import java.nio.file.Files;
import java.nio.file.Path;
import java.util.Arrays;
import java.util.Set;
import java.util.TreeSet;
import java.util.regex.Matcher;
import java.util.regex.Pattern;

/** The face has what the document's "public face" has, and nothing else. */
public final class FaceTest {
    private static final String METHODS = "feed(int) list() fault() told(int) house(int,int) girl(int,int) foot(int,int) "
        + "pass(int) go(int) attempt() soak(int) pad(int,int) move(int,int) drift(int) round(int,int) chase(int) fewest() "
        + "rule(int,int) passes(int,int,int) apart(int,int) worn(int,int,int) sisters(int,int) odds(int,int,int) "
        + "see(int,boolean) could() next() step(int) walker() write(int,int,boolean) tear() judge() seed(int) keep(int) "
        + "goBack(int)";

    public static void main(String[] args) throws Exception {
        Due due = new Due("FaceTest");
        Class<?> c = SlipperFits.class;
        due.holds("the class is public and final", Modifier.isPublic(c.getModifiers()) && Modifier.isFinal(c.getModifiers()));
        Set<String> open = new TreeSet<>();
        Set<String> hidden = new TreeSet<>();
        for (Method m : c.getDeclaredMethods()) {
            if (Modifier.isPrivate(m.getModifiers())) {
                hidden.add(m.getName());
            } else {
                StringBuilder sign = new StringBuilder(m.getName()).append('(');
                for (Class<?> p : m.getParameterTypes()) {
                    sign.append(sign.charAt(sign.length() - 1) == '(' ? "" : ",").append(p.getName());
                }
                open.add(sign.append(')').toString());
                due.holds(m.getName() + " is public and answers an int",
                    Modifier.isPublic(m.getModifiers()) && !Modifier.isStatic(m.getModifiers()) && m.getReturnType() == int.class);
            }
        }
        for (Class<?> inside : c.getDeclaredClasses()) {
            for (Method m : inside.getDeclaredMethods()) {
                hidden.add(m.getName());
            }
        }
        Set<String> wanted = new TreeSet<>(Arrays.asList(METHODS.split(" ")));
        due.holds("the methods are the document's: " + open, open.equals(wanted));
        for (String sign : wanted) {
            due.holds("no other method is named " + sign, !hidden.contains(sign.substring(0, sign.indexOf('('))));
        }
        Constructor<?>[] made = c.getDeclaredConstructors();
        due.holds("one public constructor without parameters",
            made.length == 1 && Modifier.isPublic(made[0].getModifiers()) && made[0].getParameterCount() == 0);
        Set<String> constants = new TreeSet<>();
        for (Field f : c.getDeclaredFields()) {
            if (!Modifier.isPrivate(f.getModifiers())) {
                constants.add(f.getName());
            }
            due.holds(f.getName() + " is final if it is static", !Modifier.isStatic(f.getModifiers()) || Modifier.isFinal(f.getModifiers()));
        }
        due.holds("the constants are the document's: " + constants,
            constants.equals(new TreeSet<>(Arrays.asList("NONE", "UNKNOWN", "OUTSIDE", "NOT", "FULL"))));
        due.is("NONE", SlipperFits.NONE, -1);
        due.is("UNKNOWN", SlipperFits.UNKNOWN, -1000000001);
        due.is("OUTSIDE", SlipperFits.OUTSIDE, -1000000002);
        due.is("NOT", SlipperFits.NOT, -1000000003);
        due.is("FULL", SlipperFits.FULL, -1000000004);
        asTheDocumentHasIt(due);
        due.end();
    }

    /** The document's own lines, so that a call that it gains or changes is missed here. */
    private static void asTheDocumentHasIt(Due due) throws Exception {
        Path file = Path.of("../shared/DOC.md");
        if (!Files.exists(file)) {
            System.out.println("FaceTest: no document here, so its face is not looked at");
            return;
        }
        Set<String> face = new TreeSet<>();
        Matcher m = Pattern.compile("(?m)^    public int (\\w+)\\(([^)]*)\\);$").matcher(Files.readString(file, StandardCharsets.UTF_8));
        while (m.find()) {
            face.add(m.group(1) + "(" + m.group(2).replaceAll(" \\w+(, )?", "$1").replace(", ", ",") + ")");
        }
        due.holds("the document's face is " + face, face.equals(new TreeSet<>(Arrays.asList(METHODS.split(" ")))));
    }
}
