import java.lang.reflect.InvocationTargetException;
import java.lang.reflect.Method;
import java.lang.reflect.Modifier;
import java.util.ArrayList;
import java.util.Arrays;
import java.util.Comparator;
import java.util.List;

/**
 * LANGUAGE.md, rules 7 and 13: no call throws, for any arguments in any state, not even behind the calls for which the
 * document promises something; the same calls give the same answers, whatever other objects are asked between them.
 */
public final class AnyArgumentsTest {
    private static final Due DUE = new Due("AnyArgumentsTest");
    private static final int[] NUMBERS = {Integer.MIN_VALUE, Integer.MIN_VALUE + 1, SlipperFits.UNKNOWN, -1000, -24, -2, -1, 0, 1, 2, 3,
        5, 6, 7, 8, 9, 17, 18, 23, 24, 31, 32, 48, 49, 99, 100, 255, 256, 300, 999, 1000, 9999, 99999, 100000,
        Integer.MAX_VALUE - 1, Integer.MAX_VALUE};
    private static final String FULL_LIST = "shoe 30 2 1;noon 5;house 0;house 9;house 3;house 0;house 1;house 2;way 0 1;way 1 2;way 2 3;way 3 4;"
        + "way 4 5;way 5 0;girl 5 27 1 3;girl 0 30 9 8;girl 0 29 0 0;girl 3 1 3 4;girl 1 20 2 5;girl 4 99 9 1;gait 0 abcabc;gait 3 bb;she 2;";

    public static void main(String[] args) throws Exception {
        everyArgument("a new object", AnyArgumentsTest::made);
        everyArgument("an empty list", () -> Due.told(""));
        everyArgument("houses without girls", () -> Due.told("house 0;house 3;way 0 1;"));
        everyArgument("a full list", () -> Due.told(FULL_LIST));
        everyArgument("everything full", AnyArgumentsTest::allFull);
        everyArgument("the last hour that is a number", AnyArgumentsTest::lastHour);
        everyArgument("hours gone round below 0", AnyArgumentsTest::hoursGoneRound);
        sameAnswersBesideAnother();
        DUE.end();
    }

    interface Maker {
        SlipperFits make();
    }

    private static SlipperFits made() {
        return new SlipperFits();
    }

    private static SlipperFits allFull() {
        SlipperFits x = Due.told(FULL_LIST);
        for (int i = 0; i < 400; i++) {
            x.feed(i % 256);
            x.see(i % 24, i % 3 == 0);
            x.step(i % 3);
            x.write(i, i % 6, i % 2 == 0);
            x.attempt();
        }
        for (int g = 0; g < 6; g++) {
            x.pad(g, 5);
            x.soak(g);
        }
        x.keep(0);
        x.keep(1);
        return x;
    }

    private static SlipperFits lastHour() {
        SlipperFits x = Due.told(FULL_LIST);
        for (int i = 0; i < Integer.MAX_VALUE / 999; i++) {
            x.pass(999);
        }
        x.pass(Integer.MAX_VALUE % 999);
        for (int g = 0; g < 6; g++) {
            x.soak(g);
        }
        return x;
    }

    private static SlipperFits hoursGoneRound() {
        SlipperFits x = lastHour();
        x.pass(2);
        x.soak(0);
        return x;
    }

    private static List<Method> calls() {
        List<Method> all = new ArrayList<>();
        for (Method m : SlipperFits.class.getDeclaredMethods()) {
            if (Modifier.isPublic(m.getModifiers())) {
                all.add(m);
            }
        }
        all.sort(Comparator.comparing(Method::getName));
        return all;
    }

    /** A call that changes the object gets the next arguments all the same: so many more states are come by. */
    private static void everyArgument(String state, Maker maker) throws Exception {
        for (Method call : calls()) {
            SlipperFits x = maker.make();
            Object[] arguments = new Object[call.getParameterCount()];
            fill(state, x, call, arguments, 0);
            for (Method other : calls()) {
                Object[] zeros = new Object[other.getParameterCount()];
                for (int i = 0; i < zeros.length; i++) {
                    zeros[i] = other.getParameterTypes()[i] == int.class ? (Object) 0 : (Object) true;
                }
                ask(state + " behind " + call.getName(), x, other, zeros);
            }
        }
    }

    private static void fill(String state, SlipperFits x, Method call, Object[] arguments, int i) throws Exception {
        if (i == arguments.length) {
            ask(state, x, call, arguments);
        } else if (call.getParameterTypes()[i] == boolean.class) {
            for (boolean b : new boolean[] {false, true}) {
                arguments[i] = b;
                fill(state, x, call, arguments, i + 1);
            }
        } else {
            for (int n : NUMBERS) {
                arguments[i] = n;
                fill(state, x, call, arguments, i + 1);
            }
        }
    }

    private static void ask(String state, SlipperFits x, Method call, Object[] arguments) throws Exception {
        String thrown = "nothing";
        try {
            call.invoke(x, arguments);
        } catch (InvocationTargetException wrapped) {
            thrown = wrapped.getCause().toString();
        }
        DUE.holds(state + ": " + call.getName() + Arrays.toString(arguments) + " threw " + thrown, thrown.equals("nothing"));
    }

    private static void sameAnswersBesideAnother() {
        String text = "shoe 30 2 1;house 0;house 1;way 0 1;girl 0 29 1 4;girl 1 28 0 0;she 1;gait 0 ab;";
        SlipperFits alone = new SlipperFits();
        String due = night(alone, alone, text);
        DUE.holds("the same answers again", due.equals(nightAlone(text)));
        DUE.holds("the same answers beside another object", due.equals(night(new SlipperFits(), Due.told(FULL_LIST), text)));
    }

    private static String nightAlone(String text) {
        SlipperFits x = new SlipperFits();
        return night(x, x, text);
    }

    /** The other, if it is another, is asked between any two calls of the one. */
    private static String night(SlipperFits x, SlipperFits other, String text) {
        StringBuilder all = new StringBuilder();
        for (int i = 0; i < text.length(); i++) {
            all.append(x.feed(text.charAt(i))).append(' ');
            between(x, other);
        }
        all.append(x.list()).append(' ');
        for (int i = 0; i < 9; i++) {
            between(x, other);
            all.append(x.drift(3)).append(' ').append(x.attempt()).append(' ').append(x.soak(i % 2)).append(' ');
            between(x, other);
            all.append(x.see(i, i % 2 == 0)).append(' ').append(x.step(i % 2)).append(' ').append(x.write(i, 0, true)).append(' ');
            between(x, other);
            all.append(x.round(0, -1)).append(' ').append(x.chase(1)).append(' ').append(x.sisters(1, 0)).append(' ').append(x.keep(0)).append(' ');
        }
        between(x, other);
        return all.append(Due.stateOf(x)).toString();
    }

    private static void between(SlipperFits x, SlipperFits other) {
        if (x != other) {
            other.feed('x');
            other.drift(1);
            other.attempt();
            other.see(1, true);
            other.step(2);
            other.write(5, 3, false);
            other.chase(2);
            other.round(3, -1);
            other.sisters(0, 0);
            other.keep(0);
            other.pad(0, 1);
        }
    }
}
