/** Promises 33 to 35, and that what is refused changes nothing. */
public final class ImagesTest {
    private static final Due DUE = new Due("ImagesTest");
    private static final int UNKNOWN = SlipperFits.UNKNOWN, OUTSIDE = SlipperFits.OUTSIDE, NOT = SlipperFits.NOT;

    public static void main(String[] args) {
        seeds();
        images();
        refused();
        DUE.end();
    }

    private static void seeds() {
        SlipperFits x = new SlipperFits();
        DUE.is("seed(-1)", x.seed(-1), OUTSIDE);
        DUE.is("seed(MIN)", x.seed(Integer.MIN_VALUE), OUTSIDE);
        DUE.is("seed(5)", x.seed(5), 0);
        DUE.is("seed(2147483647)", x.seed(2147483647), 5);
        DUE.is("seed(0)", x.seed(0), 2147483647);
    }

    private static void images() {
        SlipperFits x = Due.told("shoe 30 1 1;house 0;house 1;way 0 1;girl 0 30 0 0;girl 0 31 0 0;girl 1 20 0 0;she 1;");
        DUE.is("goBack(0): not kept", x.goBack(0), NOT);
        DUE.is("goBack(1): not kept", x.goBack(1), NOT);
        DUE.is("goBack(2)", x.goBack(2), UNKNOWN);
        DUE.is("goBack(-1)", x.goBack(-1), UNKNOWN);
        DUE.is("keep(2)", x.keep(2), UNKNOWN);
        DUE.is("keep(-1)", x.keep(-1), UNKNOWN);
        DUE.is("keep(1)", x.keep(1), 1);
        String first = Due.stateOf(x);
        x.soak(2);
        x.pass(2);
        DUE.is("attempt()", x.attempt(), 3);
        x.pad(0, 3);
        x.go(1);
        x.move(1, 1);
        x.seed(99);
        DUE.is("goBack(0): not kept yet", x.goBack(0), NOT);
        DUE.is("keep(0)", x.keep(0), 1);
        String second = Due.stateOf(x);
        x.drift(7);
        x.pad(2, 1);
        x.attempt();
        DUE.is("goBack(1)", x.goBack(1), 1);
        DUE.holds("all is as it was kept first", Due.stateOf(x).equals(first));
        DUE.is("goBack(0)", x.goBack(0), 1);
        DUE.holds("all is as it was kept second", Due.stateOf(x).equals(second));
        DUE.is("hour", x.told(9), 3);
        DUE.is("herald", x.told(10), 1);
        DUE.is("tries", x.told(11), 2);
        DUE.is("married", x.told(13), 1);
        DUE.is("found", x.told(14), 1);
        DUE.is("padding", x.girl(0, 4), 3);
        DUE.is("water", x.girl(2, 5), 1);
        DUE.is("where she is", x.girl(1, 0), 1);
        DUE.is("the seed", x.seed(3), 99);
        DUE.is("goBack(0) again", x.goBack(0), 1);
        DUE.is("the seed again", x.seed(3), 99);
        x.see(0, true);
        x.step(0);
        x.write(0, 0, true);
        x.goBack(1);
        DUE.is("what was seen is no part of an image", x.told(15) + x.told(16) + x.told(17), 3);
        DUE.is("keep(0) over the old", x.keep(0), 1);
        x.pass(9);
        x.goBack(0);
        DUE.is("hour of the new image", x.told(9), 0);
        SlipperFits none = new SlipperFits();
        DUE.is("goBack(0) of a new object", none.goBack(0), NOT);
        DUE.is("goBack(1) of a new object", none.goBack(1), NOT);
        DUE.is("keep(0) without a list", none.keep(0), 1);
        none.pass(4);
        DUE.is("goBack(0) without a list", none.goBack(0), 1);
        DUE.is("told(9) without a list", none.told(9), 0);
    }

    private static void refused() {
        SlipperFits x = Due.told("shoe 30 1 1;house 0;house 1;house 2;way 0 1;girl 0 30 0 0;girl 0 31 0 0;girl 1 20 0 0;she 1;");
        x.soak(2);
        x.pass(2);
        x.see(0, true);
        x.step(0);
        x.write(0, 0, true);
        String before = Due.stateOf(x);
        int[] answers = {x.feed(-1), x.feed(256), x.pass(0), x.pass(1000), x.go(3), x.go(2), x.go(0), x.soak(3), x.soak(-1),
            x.pad(3, 0), x.pad(0, 6), x.pad(0, -1), x.move(3, 0), x.move(0, 3), x.drift(0), x.drift(100), x.see(24, true),
            x.see(-1, false), x.step(3), x.step(-1), x.write(0, 3, true), x.write(-1, 0, true), x.write(100000, 0, true),
            x.seed(-1), x.keep(2), x.goBack(2), x.goBack(0)};
        for (int i = 0; i < answers.length; i++) {
            DUE.holds("refusal " + i, answers[i] <= UNKNOWN);
        }
        DUE.holds("nothing is changed by refusals", Due.stateOf(x).equals(before));
    }
}
