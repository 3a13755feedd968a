/** Promises 25 to 32: what was seen. */
public final class SeenTest {
    private static final Due DUE = new Due("SeenTest");
    private static final int NONE = SlipperFits.NONE, UNKNOWN = SlipperFits.UNKNOWN, OUTSIDE = SlipperFits.OUTSIDE, FULL = SlipperFits.FULL;

    public static void main(String[] args) {
        seeing();
        parting();
        walking();
        judging();
        tearing();
        DUE.end();
    }

    private static void seeing() {
        SlipperFits x = Due.told("shoe 30 1 1;noon 8;house 0;house 2;girl 0 30 0 0;girl 0 29 2 0;girl 1 26 2 0;girl 1 30 0 0;");
        // fits: 0 always; 1 ahead of noon; 2 from noon on; 3 never
        DUE.is("could() of all", x.could(), 15);
        DUE.is("see(24, true)", x.see(24, true), OUTSIDE);
        DUE.is("see(-1, true)", x.see(-1, true), OUTSIDE);
        DUE.is("see(7, true)", x.see(7, true), 1);
        DUE.is("could()", x.could(), 3);
        x.pad(0, 5);
        x.soak(1);
        x.attempt();
        DUE.is("could(): no padding, no water, not worn", x.could(), 3);
        DUE.is("see(8, false)", x.see(8, false), 2);
        DUE.is("could()", x.could(), 2);
        x.move(2, 0);
        DUE.is("could(): houses as now", x.could(), 2);
        x.move(1, 1);
        DUE.is("could(): stairs count", x.could(), 0);
        DUE.is("see(8, true)", x.see(8, true), 3);
        DUE.is("told(15)", x.told(15), 3);
        for (int i = 4; i <= 20; i++) {
            DUE.is("see " + i, x.see(0, true), i);
        }
        DUE.is("see 21", x.see(0, true), FULL);
        DUE.is("see(24) when full", x.see(24, true), OUTSIDE);
        DUE.is("told(15) when full", x.told(15), 20);
        DUE.is("see without girls", new SlipperFits().see(0, true), 1);
    }

    private static void parting() {
        DUE.is("next() without girls", new SlipperFits().next(), NONE);
        SlipperFits x = Due.told("noon 8;house 0;girl 0 30 0 0;girl 0 29 2 0;girl 0 28 2 0;girl 0 40 0 0;girl 0 28 1 0;girl 0 27 3 0;");
        // ahead of noon: 0, 1 of 6; from noon on: 0, 2, 4, 5
        DUE.is("next(): like parts, the least hour", x.next(), 0);
        x.move(0, 0);
        x.see(8, true);
        DUE.is("could()", x.could(), 53);
        // 0 is parted from 2, 4, 5 ahead of noon, nothing from noon on
        DUE.is("next()", x.next(), 0);
        x.see(0, false);
        DUE.is("could()", x.could(), 52);
        DUE.is("next(): none parts them", x.next(), NONE);
        SlipperFits later = Due.told("noon 8;house 0;girl 0 30 0 0;girl 0 28 2 0;girl 0 28 2 0;girl 0 28 9 0;girl 0 28 9 0;");
        // ahead of noon one of five, from noon on three of five
        DUE.is("next(): most evenly", later.next(), 8);
        SlipperFits one = Due.told("house 0;girl 0 30 0 0;");
        DUE.is("next() of one", one.next(), NONE);
        one.see(0, false);
        DUE.is("next() of nobody", one.next(), NONE);
    }

    private static void walked(SlipperFits x, String steps, int who) {
        x.tear();
        for (int i = 0; i < steps.length(); i++) {
            DUE.is("step " + i + " of " + steps, x.step(steps.charAt(i) - 'a'), i + 1);
        }
        DUE.is("walker() of " + steps, x.walker(), who);
    }

    private static void walking() {
        SlipperFits x = Due.told("house 0;girl 0 1 0 0;girl 0 1 0 0;girl 0 1 0 0;girl 0 1 0 0;gait 1 abc;gait 2 aabaac;gait 3 bc;");
        DUE.is("walker() of no steps", x.walker(), 15);
        walked(x, "a", 7);
        walked(x, "aa", 5);
        walked(x, "aaa", 1);
        walked(x, "b", 14);
        walked(x, "bc", 10);
        walked(x, "bca", 2);
        walked(x, "cabcab", 2);
        walked(x, "cabcabcabcab", 2);
        walked(x, "cbcbcbcbcbcb", 8);
        walked(x, "caabaacaabaa", 4);
        walked(x, "caabaacaabac", 0);
        walked(x, "aaaaaaaaaaaa", 1);
        DUE.is("step when full", x.step(0), FULL);
        DUE.is("step(3) when full", x.step(3), OUTSIDE);
        x.tear();
        DUE.is("step(-1)", x.step(-1), OUTSIDE);
        DUE.is("step(3)", x.step(3), OUTSIDE);
        DUE.is("told(16)", x.told(16), 0);
    }

    private static void judging() {
        SlipperFits x = Due.told("shoe 30 1 1;house 0;house 1;girl 0 30 1 0;girl 1 28 2 0;she 0;");
        DUE.is("judge() of an empty book", x.judge(), NONE);
        DUE.is("write(0, 2, true)", x.write(0, 2, true), UNKNOWN);
        DUE.is("write(-1, 2, true)", x.write(-1, 2, true), UNKNOWN);
        DUE.is("write(-1, 0, true)", x.write(-1, 0, true), OUTSIDE);
        DUE.is("write(100000, 0, true)", x.write(100000, 0, true), OUTSIDE);
        DUE.is("write(0, 0, true)", x.write(0, 0, true), 1);
        DUE.is("write(99999, 0, false)", x.write(99999, 0, false), 2);
        DUE.is("write(24, 1, true)", x.write(24, 1, true), 3);
        DUE.is("judge(): all is so", x.judge(), NONE);
        x.soak(0);
        x.soak(1);
        x.attempt();
        DUE.is("judge(): no water, not worn", x.judge(), NONE);
        DUE.is("write(36, 1, true)", x.write(36, 1, true), 4);
        DUE.is("judge(): 31 at noon", x.judge(), 3);
        x.pad(1, 1);
        DUE.is("judge(): 30 at 24, 32 at noon", x.judge(), 3);
        x.pad(1, 2);
        DUE.is("judge(): padding as now", x.judge(), 2);
        x.pad(0, 1);
        DUE.is("judge(): the first", x.judge(), 0);
        x.pad(0, 0);
        x.move(1, 0);
        x.pad(1, 1);
        DUE.is("judge(): houses as now", x.judge(), 3);
        for (int i = 5; i <= 30; i++) {
            DUE.is("write " + i, x.write(0, 0, true), i);
        }
        DUE.is("write 31", x.write(0, 0, true), FULL);
        DUE.is("write of an unknown when full", x.write(0, 9, true), UNKNOWN);
        DUE.is("write outside when full", x.write(-1, 0, true), OUTSIDE);
        DUE.is("told(17)", x.told(17), 30);
    }

    private static void tearing() {
        SlipperFits x = Due.told("house 0;girl 0 30 1 0;");
        DUE.is("tear() of nothing", x.tear(), 0);
        x.see(0, true);
        x.see(0, true);
        x.step(1);
        x.step(1);
        x.step(1);
        x.write(0, 0, false);
        DUE.is("tear()", x.tear(), 6);
        DUE.is("told(15)", x.told(15), 0);
        DUE.is("told(16)", x.told(16), 0);
        DUE.is("told(17)", x.told(17), 0);
        DUE.is("could()", x.could(), 1);
        DUE.is("walker()", x.walker(), 1);
        DUE.is("judge()", x.judge(), NONE);
        DUE.is("tear() again", x.tear(), 0);
    }
}
