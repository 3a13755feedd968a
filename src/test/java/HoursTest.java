/** Promises 9 to 15: hours. */
public final class HoursTest {
    private static final Due DUE = new Due("HoursTest");
    private static final int UNKNOWN = SlipperFits.UNKNOWN, OUTSIDE = SlipperFits.OUTSIDE, NOT = SlipperFits.NOT;

    public static void main(String[] args) {
        passing();
        going();
        trying();
        wearing();
        soaking();
        padding();
        moving();
        drifting();
        DUE.end();
    }

    private static void passing() {
        SlipperFits x = new SlipperFits();
        DUE.is("pass(0)", x.pass(0), OUTSIDE);
        DUE.is("pass(-5)", x.pass(-5), OUTSIDE);
        DUE.is("pass(1000)", x.pass(1000), OUTSIDE);
        DUE.is("pass(1)", x.pass(1), 1);
        DUE.is("pass(999)", x.pass(999), 1000);
        DUE.is("told(9)", x.told(9), 1000);
    }

    private static void going() {
        SlipperFits x = Due.told("house 0;house 0;house 0;house 0;way 0 1;way 2 1;girl 1 30 0 0;");
        DUE.is("go(4)", x.go(4), UNKNOWN);
        DUE.is("go(-1)", x.go(-1), UNKNOWN);
        DUE.is("go(0) from 0", x.go(0), NOT);
        DUE.is("go(2) from 0", x.go(2), NOT);
        DUE.is("go(3) from 0", x.go(3), NOT);
        DUE.is("told(9)", x.told(9), 0);
        DUE.is("go(1)", x.go(1), 1);
        DUE.is("told(10)", x.told(10), 1);
        DUE.is("go(2)", x.go(2), 2);
        DUE.is("go(1) back", x.go(1), 3);
        DUE.is("girl(0, 0) stays", x.girl(0, 0), 1);
        DUE.is("go(0) without houses", new SlipperFits().go(0), UNKNOWN);
    }

    private static void trying() {
        DUE.is("attempt() without houses", new SlipperFits().attempt(), NOT);
        SlipperFits empty = Due.told("house 0;");
        DUE.is("attempt() without girls", empty.attempt(), 0);
        DUE.is("told(11) without girls", empty.told(11), 0);
        SlipperFits x = Due.told("shoe 30 2 3;house 0;house 1;girl 0 28 0 0;girl 0 30 0 0;girl 1 29 0 0;girl 0 31 0 0;girl 0 27 0 0;she 1;");
        // girl 0 at glass 30; girl 1 at 30; girl 3 at 30; girl 4 at 31 (three tries behind)
        DUE.is("attempt()", x.attempt(), 3);
        DUE.is("told(11)", x.told(11), 4);
        DUE.is("told(12)", x.told(12), 31);
        DUE.is("told(13)", x.told(13), 1);
        DUE.is("told(14)", x.told(14), 1);
        // girls 1 (31), 3 (31: the 6th try), 4 (32)
        DUE.is("attempt() again", x.attempt(), 10);
        DUE.is("told(13) again", x.told(13), 9);
        DUE.is("told(11) again", x.told(11), 7);
        DUE.is("girl(0, 7) of one who is married", x.girl(0, 7), 0);
        DUE.is("house(0, 2) has the married, too", x.house(0, 2), 27);
        // girl 1 (30 in 32), girl 4: 27 in 32
        DUE.is("attempt() once more", x.attempt(), 2);
        DUE.is("told(12) once more", x.told(12), 33);
        DUE.is("attempt(): no more", x.attempt(), 0);
        DUE.is("told(14): found stays", x.told(14), 1);
        SlipperFits worn = Due.told("shoe 30 0 1;house 0;girl 0 30 0 0;girl 0 31 0 0;girl 0 32 0 0;girl 0 34 0 0;she 3;");
        DUE.is("glass counts as it is ahead of each try", worn.attempt(), 7);
        DUE.is("told(14): not found", worn.told(14), 0);
    }

    private static void wearing() {
        SlipperFits x = Due.told("shoe 1 0 1;house 0;girl 0 99 0 0;girl 0 99 0 0;girl 0 99 0 0;girl 0 99 0 0;girl 0 99 0 0;girl 0 99 0 0;she 5;");
        x.pad(0, 5);
        x.pad(1, 5);
        for (int i = 0; i < 16; i++) {
            DUE.is("attempt " + i, x.attempt(), 0);
        }
        DUE.is("told(11)", x.told(11), 96);
        DUE.is("told(12)", x.told(12), 97);
        DUE.is("attempt(): the third is tried at 99", x.attempt(), 4);
        DUE.is("told(12)", x.told(12), 103);
        DUE.is("attempt(): tried at 103, 104", x.attempt(), 2);
        SlipperFits never = Due.told("shoe 30 0 0;house 0;girl 0 30 0 0;");
        for (int i = 0; i < 300; i++) {
            DUE.is("attempt " + i, never.attempt(), 1);
        }
        DUE.is("told(11) of 300", never.told(11), 300);
        DUE.is("told(12) of glass that never wears", never.told(12), 30);
    }

    private static void soaking() {
        SlipperFits x = Due.told("house 0;girl 0 30 0 0;girl 0 2 0 0;");
        DUE.is("soak(2)", x.soak(2), UNKNOWN);
        DUE.is("soak(-1)", x.soak(-1), UNKNOWN);
        DUE.is("soak(0)", x.soak(0), 0);
        int[] left = {4, 3, 2, 1, 0, 0};
        int[] feet = {27, 27, 27, 27, 30, 30};
        for (int hour = 0; hour < 6; hour++) {
            DUE.is("girl(0, 5) at " + hour, x.girl(0, 5), left[hour]);
            DUE.is("girl(0, 6) at " + hour, x.girl(0, 6), feet[hour]);
            DUE.is("girl(0, 7) at " + hour, x.girl(0, 7), feet[hour] == 30 ? 1 : 0);
            DUE.is("girl(1, 5) at " + hour, x.girl(1, 5), 0);
            x.pass(1);
        }
        DUE.is("soak(0) when dry", x.soak(0), 0);
        x.pass(3);
        DUE.is("soak(0) when wet", x.soak(0), 1);
        DUE.is("girl(0, 5): wet anew", x.girl(0, 5), 4);
        DUE.is("foot(0, 6): the earlier water does not count", x.foot(0, 6), 30);
        DUE.is("foot(0, 12)", x.foot(0, 12), 27);
        DUE.is("foot(0, 13)", x.foot(0, 13), 30);
        x.soak(1);
        DUE.is("girl(1, 6): 0 at least", x.girl(1, 6), 0);
        x.pad(1, 2);
        DUE.is("girl(1, 6): padded, then shrunk", x.girl(1, 6), 1);
    }

    private static void padding() {
        SlipperFits x = Due.told("house 0;girl 0 26 0 0;");
        DUE.is("pad(1, 9)", x.pad(1, 9), UNKNOWN);
        DUE.is("pad(0, 6)", x.pad(0, 6), OUTSIDE);
        DUE.is("pad(0, -1)", x.pad(0, -1), OUTSIDE);
        DUE.is("pad(0, 5)", x.pad(0, 5), 0);
        DUE.is("girl(0, 4)", x.girl(0, 4), 5);
        DUE.is("girl(0, 6)", x.girl(0, 6), 31);
        DUE.is("girl(0, 7)", x.girl(0, 7), 0);
        DUE.is("pad(0, 3)", x.pad(0, 3), 5);
        DUE.is("girl(0, 7) padded by 3", x.girl(0, 7), 1);
        DUE.is("pad(0, 0)", x.pad(0, 0), 3);
        DUE.is("girl(0, 6)", x.girl(0, 6), 26);
    }

    private static void moving() {
        SlipperFits x = Due.told("house 0;house 4;girl 0 26 0 0;girl 1 20 0 0;");
        DUE.is("move(2, 0)", x.move(2, 0), UNKNOWN);
        DUE.is("move(0, 2)", x.move(0, 2), UNKNOWN);
        DUE.is("move(0, -1)", x.move(0, -1), UNKNOWN);
        DUE.is("move(0, 0)", x.move(0, 0), 0);
        DUE.is("move(0, 1) needs no way", x.move(0, 1), 0);
        DUE.is("girl(0, 0)", x.girl(0, 0), 1);
        DUE.is("girl(0, 6) with other stairs", x.girl(0, 6), 30);
        DUE.is("house(0, 2)", x.house(0, 2), 0);
        DUE.is("house(1, 2)", x.house(1, 2), 3);
        DUE.is("told(9): no hour passes", x.told(9), 0);
        DUE.is("move(1, 0)", x.move(1, 0), 1);
    }

    /** Draws as the document tells them, counted in another way than the program counts them. */
    private static java.math.BigInteger seed = java.math.BigInteger.ZERO;

    private static int draw(int n) {
        java.math.BigInteger two31 = java.math.BigInteger.ONE.shiftLeft(31);
        seed = seed.multiply(java.math.BigInteger.valueOf(1103515245)).add(java.math.BigInteger.valueOf(12345)).mod(two31);
        return seed.divide(java.math.BigInteger.valueOf(65536)).mod(java.math.BigInteger.valueOf(n)).intValue();
    }

    private static void drifting() {
        DUE.is("drift(0) without girls", new SlipperFits().drift(0), OUTSIDE);
        DUE.is("drift(1) without girls", new SlipperFits().drift(1), NOT);
        DUE.is("drift(1) with houses alone", Due.told("house 0;house 0;way 0 1;").drift(1), NOT);
        SlipperFits x = Due.told("house 0;house 0;house 0;house 0;way 3 1;way 0 1;way 1 2;way 0 3;girl 2 30 0 0;girl 1 30 0 0;girl 0 30 0 0;she 1;");
        DUE.is("drift(100)", x.drift(100), OUTSIDE);
        DUE.is("drift(-1)", x.drift(-1), OUTSIDE);
        int[][] ways = {{1, 3}, {0, 2, 3}, {1}, {0, 1}};
        int at = 1;
        int hour = 0;
        int[] soaked = {-9, -9, -9};
        int[] hours = {1, 1, 1, 2, 5, 20, 99, 99, 7};
        x.seed(424242);
        seed = java.math.BigInteger.valueOf(424242);
        for (int n : hours) {
            for (int i = 0; i < n; i++) {
                int way = draw(ways[at].length + 1);
                at = way < ways[at].length ? ways[at][way] : at;
                hour++;
                if (draw(6) == 0) {
                    soaked[draw(3)] = hour;
                }
            }
            DUE.is("drift(" + n + ")", x.drift(n), at);
            DUE.is("told(9)", x.told(9), hour);
            for (int g = 0; g < 3; g++) {
                DUE.is("girl(" + g + ", 5)", x.girl(g, 5), Math.max(0, soaked[g] + 4 - hour));
            }
            DUE.is("girl(0, 0)", x.girl(0, 0), 2);
            DUE.is("girl(1, 0)", x.girl(1, 0), at);
            DUE.is("girl(2, 0)", x.girl(2, 0), 0);
        }
        DUE.is("the seed", x.seed(0), seed.intValue());
        SlipperFits alone = Due.told("house 0;girl 0 30 0 0;");
        DUE.is("drift(1) where no way leads", alone.drift(1), 0);
        seed = java.math.BigInteger.ZERO;
        draw(1);
        if (draw(6) == 0) {
            draw(1);
        }
        DUE.is("the draw of 1 is drawn, too", alone.seed(0), seed.intValue());
    }
}
