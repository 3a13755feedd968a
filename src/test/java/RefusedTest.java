import java.util.function.Consumer;
import java.util.function.Supplier;
import java.util.function.ToIntFunction;

/**
 * Every call that can be refused, in every way: the refusal that is due, and that nothing has changed behind it.
 * For each there are two objects of like calls, one of which gets the refused call more.
 */
public final class RefusedTest {
    private static final Due DUE = new Due("RefusedTest");
    private static final int UNKNOWN = SlipperFits.UNKNOWN, OUTSIDE = SlipperFits.OUTSIDE, NOT = SlipperFits.NOT, FULL = SlipperFits.FULL;
    private static final int MIN = Integer.MIN_VALUE, MAX = Integer.MAX_VALUE;

    public static void main(String[] args) {
        DUE.says("What is refused changes nothing.");
        list();
        hours();
        tried();
        seen();
        images();
        DUE.says("REFUSALS, of several the first in this order: UNKNOWN (a HOUSE, GIRL, IMAGE that there is not; one twice),"
            + " OUTSIDE (another number out of its bounds), NOT (not now, as told), FULL.");
        firstOfSeveral();
        whenFull();
        withoutList();
        DUE.end();
    }

    // ---- objects in which as much as possible can change

    private static SlipperFits busy() {
        SlipperFits x = Due.told("shoe 30 1 1;house 0;house 1;house 2;way 0 1;girl 0 30 1 4;girl 0 31 0 0;girl 1 20 0 0;she 1;gait 0 ab;");
        x.seed(77);
        x.soak(2);
        x.pass(2);
        x.attempt();
        x.pad(0, 3);
        x.keep(0);
        x.go(1);
        x.move(0, 2);
        x.see(0, true);
        x.step(0);
        x.write(0, 0, true);
        for (char c : "noon 24;".toCharArray()) {
            x.feed(c);
        }
        return x;
    }

    private static SlipperFits full() {
        SlipperFits x = Due.told("house 0;girl 0 30 0 0;girl 0 28 2 0;");
        for (int i = 0; i < 30; i++) {
            x.see(12, true);
            x.step(0);
            x.write(i, 1, i % 2 == 0);
        }
        return x;
    }

    private static SlipperFits fullText() {
        SlipperFits x = new SlipperFits();
        for (int i = 0; i < 300; i++) {
            x.feed(i == 10 ? 'x' : ' ');
        }
        return x;
    }

    private static SlipperFits without() {
        SlipperFits x = new SlipperFits();
        x.pass(7);
        x.see(3, true);
        x.step(1);
        x.seed(5);
        x.feed('x');
        return x;
    }

    // ---- all that can be asked of an object, the text and the images with it

    private static String allOf(SlipperFits x) {
        StringBuilder all = new StringBuilder(Due.stateOf(x)).append('/').append(x.fault());
        for (int i = 0; i < 2; i++) {
            all.append('/').append(x.goBack(i)).append(' ').append(Due.stateOf(x));
        }
        return all.append('/').append(x.list()).append(' ').append(x.fault()).toString();
    }

    private static void refused(String call, Supplier<SlipperFits> made, ToIntFunction<SlipperFits> asked, int refusal) {
        SlipperFits x = made.get();
        DUE.is(call, asked.applyAsInt(x), refusal);
        DUE.holds("all is as it was behind " + call, allOf(x).equals(allOf(made.get())));
    }

    private static void busyRefuses(String call, ToIntFunction<SlipperFits> asked, int refusal) {
        refused(call, RefusedTest::busy, asked, refusal);
    }

    private static void each(Consumer<Integer> of, int... numbers) {
        for (int n : numbers) {
            of.accept(n);
        }
    }

    // ---- the calls

    private static void list() {
        each(c -> busyRefuses("feed(" + c + ")", x -> x.feed(c), OUTSIDE), MIN, -1, 256, MAX);
        each(what -> busyRefuses("told(" + what + ")", x -> x.told(what), OUTSIDE), MIN, -1, 18, MAX);
        each(h -> busyRefuses("house(" + h + ", 0)", x -> x.house(h, 0), UNKNOWN), MIN, -1, 3, 6, MAX);
        each(what -> busyRefuses("house(2, " + what + ")", x -> x.house(2, what), OUTSIDE), MIN, -1, 3, MAX);
        each(g -> busyRefuses("girl(" + g + ", 0)", x -> x.girl(g, 0), UNKNOWN), MIN, -1, 3, 6, MAX);
        each(what -> busyRefuses("girl(2, " + what + ")", x -> x.girl(2, what), OUTSIDE), MIN, -1, 9, MAX);
        each(g -> busyRefuses("foot(" + g + ", 0)", x -> x.foot(g, 0), UNKNOWN), MIN, -1, 3, 6, MAX);
        each(hour -> busyRefuses("foot(2, " + hour + ")", x -> x.foot(2, hour), OUTSIDE), MIN, -1, 100000, MAX);
    }

    private static void hours() {
        each(n -> busyRefuses("pass(" + n + ")", x -> x.pass(n), OUTSIDE), MIN, -1, 0, 1000, MAX);
        each(h -> busyRefuses("go(" + h + ")", x -> x.go(h), UNKNOWN), MIN, -1, 3, 6, MAX);
        each(h -> busyRefuses("go(" + h + ")", x -> x.go(h), NOT), 1, 2);
        each(g -> busyRefuses("soak(" + g + ")", x -> x.soak(g), UNKNOWN), MIN, -1, 3, 6, MAX);
        each(g -> busyRefuses("pad(" + g + ", 1)", x -> x.pad(g, 1), UNKNOWN), MIN, -1, 3, 6, MAX);
        each(n -> busyRefuses("pad(0, " + n + ")", x -> x.pad(0, n), OUTSIDE), MIN, -1, 6, MAX);
        each(g -> busyRefuses("move(" + g + ", 1)", x -> x.move(g, 1), UNKNOWN), MIN, -1, 3, 6, MAX);
        each(h -> busyRefuses("move(0, " + h + ")", x -> x.move(0, h), UNKNOWN), MIN, -1, 3, 6, MAX);
        each(n -> busyRefuses("drift(" + n + ")", x -> x.drift(n), OUTSIDE), MIN, -1, 0, 100, MAX);
    }

    private static void tried() {
        each(g -> busyRefuses("round(" + g + ", -1)", x -> x.round(g, -1), UNKNOWN), MIN, -1, 3, 6, MAX);
        each(k -> busyRefuses("chase(" + k + ")", x -> x.chase(k), OUTSIDE), MIN, -1, 0, 3, MAX);
        each(g -> busyRefuses("rule(" + g + ", 0)", x -> x.rule(g, 0), UNKNOWN), MIN, -1, 3, 6, MAX);
        each(what -> busyRefuses("rule(0, " + what + ")", x -> x.rule(0, what), OUTSIDE), MIN, -1, 2, MAX);
        each(g -> busyRefuses("passes(" + g + ", 0, 1)", x -> x.passes(g, 0, 1), UNKNOWN), MIN, -1, 3, 6, MAX);
        each(a -> busyRefuses("passes(0, " + a + ", 1)", x -> x.passes(0, a, 1), OUTSIDE), MIN, -1, 24, MAX);
        each(b -> busyRefuses("passes(0, 1, " + b + ")", x -> x.passes(0, 1, b), OUTSIDE), MIN, -1, 24, MAX);
        each(g -> busyRefuses("apart(" + g + ", 0)", x -> x.apart(g, 0), UNKNOWN), MIN, -1, 0, 3, 6, MAX);
        each(q -> busyRefuses("apart(2, " + q + ")", x -> x.apart(2, q), UNKNOWN), MIN, -1, 2, 3, 6, MAX);
        each(g -> busyRefuses("worn(" + g + ", 0, 0)", x -> x.worn(g, 0, 0), UNKNOWN), MIN, -1, 0, 3, 6, MAX);
        each(q -> busyRefuses("worn(2, " + q + ", 0)", x -> x.worn(2, q, 0), UNKNOWN), MIN, -1, 2, 3, 6, MAX);
        each(hour -> busyRefuses("worn(0, 1, " + hour + ")", x -> x.worn(0, 1, hour), OUTSIDE), MIN, -1, 24, MAX);
        each(what -> busyRefuses("sisters(" + what + ", 0)", x -> x.sisters(what, 0), OUTSIDE), MIN, -1, 3, MAX);
        each(g -> busyRefuses("sisters(2, " + g + ")", x -> x.sisters(2, g), UNKNOWN), MIN, -1, 3, 6, MAX);
        each(g -> busyRefuses("odds(" + g + ", 0, 0)", x -> x.odds(g, 0, 0), UNKNOWN), MIN, -1, 3, 6, MAX);
        each(hour -> busyRefuses("odds(0, " + hour + ", 0)", x -> x.odds(0, hour, 0), OUTSIDE), MIN, -1, 24, MAX);
        each(part -> busyRefuses("odds(0, 0, " + part + ")", x -> x.odds(0, 0, part), OUTSIDE), MIN, -1, 2, MAX);
    }

    private static void seen() {
        each(hour -> busyRefuses("see(" + hour + ", true)", x -> x.see(hour, true), OUTSIDE), MIN, -1, 24, MAX);
        each(l -> busyRefuses("step(" + l + ")", x -> x.step(l), OUTSIDE), MIN, -1, 3, MAX);
        each(g -> busyRefuses("write(0, " + g + ", true)", x -> x.write(0, g, true), UNKNOWN), MIN, -1, 3, 6, MAX);
        each(hour -> busyRefuses("write(" + hour + ", 0, false)", x -> x.write(hour, 0, false), OUTSIDE), MIN, -1, 100000, MAX);
    }

    private static void images() {
        each(v -> busyRefuses("seed(" + v + ")", x -> x.seed(v), OUTSIDE), MIN, -1);
        each(i -> busyRefuses("keep(" + i + ")", x -> x.keep(i), UNKNOWN), MIN, -1, 2, MAX);
        each(i -> busyRefuses("goBack(" + i + ")", x -> x.goBack(i), UNKNOWN), MIN, -1, 2, MAX);
        busyRefuses("goBack(1), which was not kept", x -> x.goBack(1), NOT);
    }

    private static void firstOfSeveral() {
        busyRefuses("house(3, 3)", x -> x.house(3, 3), UNKNOWN);
        busyRefuses("girl(3, 9)", x -> x.girl(3, 9), UNKNOWN);
        busyRefuses("foot(3, 100000)", x -> x.foot(3, 100000), UNKNOWN);
        busyRefuses("pad(3, 6)", x -> x.pad(3, 6), UNKNOWN);
        busyRefuses("move(3, 3)", x -> x.move(3, 3), UNKNOWN);
        busyRefuses("rule(3, 2)", x -> x.rule(3, 2), UNKNOWN);
        busyRefuses("passes(3, 24, 24)", x -> x.passes(3, 24, 24), UNKNOWN);
        busyRefuses("worn(3, 0, 24)", x -> x.worn(3, 0, 24), UNKNOWN);
        busyRefuses("worn(0, 3, 24)", x -> x.worn(0, 3, 24), UNKNOWN);
        busyRefuses("worn(1, 1, 24)", x -> x.worn(1, 1, 24), UNKNOWN);
        busyRefuses("sisters(3, 3)", x -> x.sisters(3, 3), OUTSIDE);
        busyRefuses("odds(3, 24, 2)", x -> x.odds(3, 24, 2), UNKNOWN);
        busyRefuses("write(100000, 3, true)", x -> x.write(100000, 3, true), UNKNOWN);
    }

    private static void whenFull() {
        refused("feed when full", RefusedTest::fullText, x -> x.feed('x'), FULL);
        refused("feed(256) when full", RefusedTest::fullText, x -> x.feed(256), OUTSIDE);
        refused("feed(-1) when full", RefusedTest::fullText, x -> x.feed(-1), OUTSIDE);
        refused("see when full", RefusedTest::full, x -> x.see(0, false), FULL);
        refused("see(24) when full", RefusedTest::full, x -> x.see(24, false), OUTSIDE);
        refused("see(-1) when full", RefusedTest::full, x -> x.see(-1, false), OUTSIDE);
        refused("step when full", RefusedTest::full, x -> x.step(1), FULL);
        refused("step(3) when full", RefusedTest::full, x -> x.step(3), OUTSIDE);
        refused("step(-1) when full", RefusedTest::full, x -> x.step(-1), OUTSIDE);
        refused("write when full", RefusedTest::full, x -> x.write(0, 0, false), FULL);
        refused("write(100000) when full", RefusedTest::full, x -> x.write(100000, 0, false), OUTSIDE);
        refused("write of an unknown when full", RefusedTest::full, x -> x.write(0, 2, false), UNKNOWN);
        refused("write(-1) of an unknown when full", RefusedTest::full, x -> x.write(-1, -1, false), UNKNOWN);
    }

    private static void withoutList() {
        refused("attempt()", RefusedTest::without, x -> x.attempt(), NOT);
        refused("drift(1)", RefusedTest::without, x -> x.drift(1), NOT);
        refused("drift(0)", RefusedTest::without, x -> x.drift(0), OUTSIDE);
        refused("drift(100)", RefusedTest::without, x -> x.drift(100), OUTSIDE);
        refused("chase(1)", RefusedTest::without, x -> x.chase(1), NOT);
        refused("chase(2)", RefusedTest::without, x -> x.chase(2), NOT);
        refused("chase(0)", RefusedTest::without, x -> x.chase(0), OUTSIDE);
        refused("chase(3)", RefusedTest::without, x -> x.chase(3), OUTSIDE);
        refused("go(0)", RefusedTest::without, x -> x.go(0), UNKNOWN);
        refused("house(0, 3)", RefusedTest::without, x -> x.house(0, 3), UNKNOWN);
        refused("girl(0, 9)", RefusedTest::without, x -> x.girl(0, 9), UNKNOWN);
        refused("foot(0, -1)", RefusedTest::without, x -> x.foot(0, -1), UNKNOWN);
        refused("soak(0)", RefusedTest::without, x -> x.soak(0), UNKNOWN);
        refused("pad(0, 6)", RefusedTest::without, x -> x.pad(0, 6), UNKNOWN);
        refused("move(0, 0)", RefusedTest::without, x -> x.move(0, 0), UNKNOWN);
        refused("round(0, 0)", RefusedTest::without, x -> x.round(0, 0), UNKNOWN);
        refused("rule(0, 2)", RefusedTest::without, x -> x.rule(0, 2), UNKNOWN);
        refused("passes(0, 24, 0)", RefusedTest::without, x -> x.passes(0, 24, 0), UNKNOWN);
        refused("apart(0, 1)", RefusedTest::without, x -> x.apart(0, 1), UNKNOWN);
        refused("worn(0, 1, 24)", RefusedTest::without, x -> x.worn(0, 1, 24), UNKNOWN);
        refused("sisters(2, 0)", RefusedTest::without, x -> x.sisters(2, 0), UNKNOWN);
        refused("odds(0, 24, 2)", RefusedTest::without, x -> x.odds(0, 24, 2), UNKNOWN);
        refused("write(-1, 0, true)", RefusedTest::without, x -> x.write(-1, 0, true), UNKNOWN);
        refused("goBack(0)", RefusedTest::without, x -> x.goBack(0), NOT);
    }
}
