/** Promises 16 to 24: tried. */
public final class TriedTest {
    private static final Due DUE = new Due("TriedTest");
    private static final int NONE = SlipperFits.NONE, UNKNOWN = SlipperFits.UNKNOWN, OUTSIDE = SlipperFits.OUTSIDE, NOT = SlipperFits.NOT;
    private static final String SIX = "house 0;house 0;house 0;house 0;house 0;house 0;";

    public static void main(String[] args) {
        rounds();
        roundsInTime();
        chases();
        rules();
        passing();
        apart();
        worn();
        sisters();
        odds();
        DUE.end();
    }

    private static void path(SlipperFits x, int g, int... houses) {
        DUE.is("round(" + g + ", NONE)", x.round(g, NONE), houses.length - 1);
        for (int i = 0; i < houses.length; i++) {
            DUE.is("round(" + g + ", " + i + ")", x.round(g, i), houses[i]);
        }
        DUE.is("round behind its end", x.round(g, houses.length), NONE);
        DUE.is("round(" + g + ", -2)", x.round(g, -2), NONE);
    }

    private static void rounds() {
        SlipperFits x = Due.told(SIX + "way 0 4;way 0 2;way 4 5;way 2 5;way 5 3;girl 3 30 0 0;girl 1 30 0 0;girl 0 29 0 0;girl 0 31 0 0;");
        path(x, 0, 0, 2, 5, 3);
        path(x, 2, 0);
        DUE.is("round where no way leads", x.round(1, NONE), NONE);
        DUE.is("round(1, 0) where no way leads", x.round(1, 0), NONE);
        DUE.is("round to one whom it never fits", x.round(3, NONE), NONE);
        DUE.is("round(4, 0)", x.round(4, 0), UNKNOWN);
        DUE.is("round(-1, NONE)", x.round(-1, NONE), UNKNOWN);
        DUE.is("nothing changes by it", x.told(9) + x.told(10), 0);
        x.go(4);
        path(x, 0, 4, 5, 3);
        SlipperFits over = Due.told("house 0;house 0;house 0;way 0 1;way 0 2;girl 2 30 0 0;");
        over.go(1);
        path(over, 0, 1, 0, 2);
        DUE.is("round without houses", new SlipperFits().round(0, NONE), UNKNOWN);
        DUE.is("round(0, MIN)", x.round(0, Integer.MIN_VALUE), NONE);
        DUE.is("round(0, MAX)", x.round(0, Integer.MAX_VALUE), NONE);
    }

    private static void roundsInTime() {
        // it fits from noon (6) on alone; he waits where the lesser house is
        SlipperFits x = Due.told("noon 6;house 0;house 0;house 0;way 0 2;way 2 1;girl 1 28 2 0;girl 1 33 0 0;girl 2 30 1 0;");
        path(x, 0, 0, 0, 0, 0, 0, 2, 1);
        x.go(2);
        path(x, 0, 2, 0, 0, 0, 2, 1);
        x.go(1);
        path(x, 0, 1, 1, 1, 1, 1);
        // soaked at hour 2 till 5, and 33 - 3 fits
        x.soak(1);
        path(x, 1, 1);
        x.go(2);
        x.go(0);
        DUE.is("told(9)", x.told(9), 4);
        DUE.is("she is dry at 6", x.round(1, NONE), NONE);
        // girl 2 fits at hours 0 .. 5 of the day
        path(x, 2, 0, 2);
        x.pass(1);
        DUE.is("told(9)", x.told(9), 5);
        DUE.is("on the next day", x.round(2, NONE), 19);
        DUE.is("the way is gone at the last", x.round(2, 18), 0);
        DUE.is("the way is gone at the last", x.round(2, 19), 2);
        x.pass(18);
        DUE.is("told(9)", x.told(9), 23);
        DUE.is("from 23 on", x.round(2, NONE), 1);
        // padding and wear count as now
        SlipperFits worn = Due.told("shoe 30 0 1;house 0;house 0;way 0 1;girl 1 31 0 0;girl 0 99 0 0;");
        DUE.is("too short", worn.round(0, NONE), NONE);
        worn.attempt();
        DUE.is("worn", worn.round(0, NONE), 1);
        worn.pad(0, 1);
        DUE.is("padded", worn.round(0, NONE), NONE);
    }

    private static void chased(String list, int one, int two) {
        SlipperFits x = Due.told(list);
        DUE.is("chase(1) of " + list, x.chase(1), one);
        DUE.is("chase(2) of " + list, x.chase(2), two);
        DUE.is("fewest() of " + list, x.fewest(), one != NONE ? 1 : two != NONE ? 2 : NONE);
    }

    private static void chases() {
        SlipperFits x = new SlipperFits();
        DUE.is("chase(0) without houses", x.chase(0), OUTSIDE);
        DUE.is("chase(3)", x.chase(3), OUTSIDE);
        DUE.is("chase(1) without houses", x.chase(1), NOT);
        DUE.is("chase(2) without houses", x.chase(2), NOT);
        DUE.is("fewest() without houses", x.fewest(), NONE);
        chased("house 0;", 0, 0);
        chased("house 0;house 0;", NONE, 0);
        chased("house 0;house 0;way 0 1;", 1, 0);
        chased("house 0;house 0;house 0;", NONE, NONE);
        chased("house 0;house 0;house 0;way 0 1;", NONE, 1);
        chased("house 0;house 0;house 0;way 0 1;way 1 2;", 1, 1);
        chased("house 0;house 0;house 0;way 0 1;way 1 2;way 0 2;", 1, 1);
        chased("house 0;house 0;house 0;house 0;way 0 1;way 1 2;way 2 3;", 2, 1);
        chased("house 0;house 0;house 0;house 0;way 0 1;way 1 2;way 2 3;way 3 0;", NONE, 1);
        chased("house 0;house 0;house 0;house 0;house 0;way 0 1;way 1 2;way 2 3;way 3 4;", 2, 1);
        chased(SIX + "way 0 1;way 1 2;way 2 3;way 3 4;way 4 5;", 3, 1);
        chased(SIX + "way 0 1;way 1 2;way 2 3;way 3 4;way 4 5;way 5 0;", NONE, 1);
        // a path whose midst is 0
        chased("house 0;house 0;house 0;house 0;house 0;way 1 3;way 0 1;way 0 2;way 2 4;", 2, 1);
        // two rings of three apart
        chased(SIX + "way 0 1;way 1 2;way 2 0;way 3 4;way 4 5;way 5 3;", NONE, 1);
        // a ring of four and a path of two: one herald each, and the ring needs both
        chased(SIX + "way 0 1;way 1 2;way 2 3;way 3 0;way 4 5;", NONE, NONE);
        chased("house 0;house 0;house 0;house 0;house 0;way 0 1;way 1 2;way 2 3;way 3 4;way 4 0;", NONE, 1);
        // a path of five, and a house of its own
        chased(SIX + "way 0 1;way 1 2;way 2 3;way 3 4;", NONE, 2);
        // a path of three and one of three: each herald in the midst
        chased(SIX + "way 0 1;way 1 2;way 3 4;way 4 5;", NONE, 1);
    }

    private static void rules() {
        // girl 0: 29 / 30; girl 1: 24 / 29 (padded by 1: at 12 alone; never both); girl 2: 25 / 26
        SlipperFits x = Due.told("house 0;house 2;girl 0 29 1 0;girl 0 24 5 0;girl 1 23 1 0;she 1;");
        DUE.is("rule(3, 5)", x.rule(3, 5), UNKNOWN);
        DUE.is("rule(0, 2)", x.rule(0, 2), OUTSIDE);
        DUE.is("rule(0, -1)", x.rule(0, -1), OUTSIDE);
        DUE.is("girl 2 passes 0, 12 with 4", x.passes(2, 0, 12), 4);
        DUE.is("girl 1 passes 0, 1 with 5", x.passes(1, 0, 1), 5);
        DUE.is("rule(0, 0)", x.rule(0, 0), NONE);
        x.move(2, 0);
        // 23 / 24: fits at 12, 13 with 5, at 0 not at all
        DUE.is("rule(0, 0)", x.rule(0, 0), 0);
        DUE.is("rule(0, 1)", x.rule(0, 1), 12);
        DUE.is("rule(1, 0)", x.rule(1, 0), NONE);
        DUE.is("rule(2, 1)", x.rule(2, 1), NONE);
        x.pad(0, 5);
        x.soak(0);
        DUE.is("rule: her padding, her water do not count", x.rule(0, 1), 12);
        SlipperFits first = Due.told("house 0;girl 0 25 0 0;girl 0 30 0 0;");
        DUE.is("rule: the first passes, too", first.rule(1, 0), NONE);
        SlipperFits alone = Due.told("noon 22;shoe 30 0 1;house 0;girl 0 25 5 0;");
        DUE.is("rule of one alone: a", alone.rule(0, 0), 22);
        DUE.is("rule of one alone: b", alone.rule(0, 1), 23);
        alone.attempt();
        DUE.is("rule: glass not worn", alone.rule(0, 0), 22);
        DUE.is("rule of one hour is none", Due.told("noon 23;shoe 30 0 1;house 0;girl 0 25 5 0;").rule(0, 0), NONE);
    }

    private static void passing() {
        SlipperFits x = Due.told("shoe 30 2 1;noon 10;house 1;girl 0 23 2 0;girl 0 24 6 0;girl 0 30 0 0;");
        // girl 0: 24 / 26, girl 1: 25 / 31, girl 2: 31
        DUE.is("passes(0, 0, 9)", x.passes(0, 0, 9), 4);
        DUE.is("passes(0, 0, 0)", x.passes(0, 0, 0), 4);
        DUE.is("passes(0, 10, 23)", x.passes(0, 10, 23), 2);
        DUE.is("passes(0, 9, 10)", x.passes(0, 9, 10), 4);
        DUE.is("passes(0, 10, 9)", x.passes(0, 10, 9), 4);
        DUE.is("passes(1, 0, 0)", x.passes(1, 0, 0), 3);
        DUE.is("passes(1, 0, 10)", x.passes(1, 0, 10), NONE);
        DUE.is("passes(2, 0, 0)", x.passes(2, 0, 0), NONE);
        DUE.is("passes without padding", Due.told("house 0;girl 0 29 1 0;").passes(0, 0, 12), 0);
        x.pad(0, 3);
        x.soak(0);
        x.attempt();
        DUE.is("passes: padding as told, no water, not worn", x.passes(0, 0, 9), 4);
        DUE.is("passes(3, 99, 0)", x.passes(3, 99, 0), UNKNOWN);
        DUE.is("passes(0, 24, 0)", x.passes(0, 24, 0), OUTSIDE);
        DUE.is("passes(0, 0, 24)", x.passes(0, 0, 24), OUTSIDE);
        DUE.is("passes(0, -1, 0)", x.passes(0, -1, 0), OUTSIDE);
    }

    private static void apart() {
        SlipperFits x = Due.told("noon 4;shoe 30 0 3;house 0;girl 0 30 0 0;girl 0 28 2 0;girl 0 27 3 0;girl 0 31 0 0;she 3;");
        DUE.is("apart(0, 1)", x.apart(0, 1), 15);
        DUE.is("apart(1, 0)", x.apart(1, 0), 15);
        DUE.is("apart(1, 2)", x.apart(1, 2), 0);
        DUE.is("apart(0, 3)", x.apart(0, 3), 0xffffff);
        x.soak(0);
        DUE.is("apart: no water", x.apart(0, 1), 15);
        x.pad(1, 2);
        DUE.is("apart: padding as now", x.apart(0, 1), 0xfffff0);
        x.soak(2);
        x.attempt();
        DUE.is("told(12)", x.told(12), 31);
        DUE.is("apart: worn as now", x.apart(0, 3), 0xffffff);
        DUE.is("apart: worn as now", x.apart(0, 1), 0);
        DUE.is("apart(0, 0): one twice", x.apart(0, 0), UNKNOWN);
        DUE.is("apart(0, 4)", x.apart(0, 4), UNKNOWN);
        DUE.is("apart(-1, 0)", x.apart(-1, 0), UNKNOWN);
    }

    private static void worn() {
        SlipperFits x = Due.told("shoe 30 2 7;noon 12;house 0;house 9;girl 0 30 0 0;girl 0 28 4 0;girl 0 27 1 0;girl 1 99 9 0;girl 1 99 9 0;");
        DUE.is("worn(0, 1, 0)", x.worn(0, 1, 0), 0);
        DUE.is("worn(0, 1, 11)", x.worn(0, 1, 11), 0);
        DUE.is("worn(0, 1, 12): 30 and 32", x.worn(0, 1, 12), 14);
        DUE.is("worn(1, 2, 12): 32 and 28", x.worn(1, 2, 12), NONE);
        DUE.is("worn(0, 2, 0): 27 in 30", x.worn(0, 2, 0), NONE);
        DUE.is("worn(3, 4, 0): 108", x.worn(3, 4, 0), 546);
        x.pad(0, 1);
        DUE.is("worn: 31 and 28", x.worn(0, 1, 0), NONE);
        x.pad(1, 1);
        x.soak(0);
        x.soak(1);
        DUE.is("worn: padding as now, no water", x.worn(0, 1, 0), 7);
        x.attempt();
        x.attempt();
        x.attempt();
        x.attempt();
        DUE.is("worn: tries in all", x.worn(0, 1, 0), 7);
        DUE.is("worn(0, 0, 99): one twice", x.worn(0, 0, 99), UNKNOWN);
        DUE.is("worn(0, 5, 0)", x.worn(0, 5, 0), UNKNOWN);
        DUE.is("worn(0, 1, 24)", x.worn(0, 1, 24), OUTSIDE);
        DUE.is("worn(0, 1, -1)", x.worn(0, 1, -1), OUTSIDE);
        SlipperFits never = Due.told("shoe 30 2 0;house 0;girl 0 30 0 0;girl 0 29 4 0;");
        DUE.is("glass that never wears", never.worn(0, 1, 0), 0);
        DUE.is("glass that never wears", never.worn(0, 1, 12), NONE);
        SlipperFits most = Due.told("shoe 7 9 99;house 9;girl 0 99 0 0;girl 0 91 0 0;");
        DUE.is("101 longer: 9999 tries", most.worn(0, 1, 0), 9999);
        most.pad(0, 1);
        DUE.is("more than 9999", most.worn(0, 1, 0), NONE);
    }

    private static void sisters(SlipperFits x, int rounds, int wins, int... hours) {
        DUE.is("sisters(0, -7)", x.sisters(0, -7), rounds);
        DUE.is("sisters(1, 99)", x.sisters(1, 99), wins);
        for (int g = 0; g < hours.length; g++) {
            DUE.is("sisters(2, " + g + ")", x.sisters(2, g), hours[g]);
        }
        DUE.is("sisters(2, " + hours.length + ")", x.sisters(2, hours.length), UNKNOWN);
    }

    private static void sisters() {
        SlipperFits none = new SlipperFits();
        sisters(none, 0, NONE);
        DUE.is("sisters(3, 99)", none.sisters(3, 99), OUTSIDE);
        DUE.is("sisters(-1, 0)", none.sisters(-1, 0), OUTSIDE);
        sisters(Due.told("house 0;girl 0 40 0 0;"), 0, NONE, 0);
        sisters(Due.told("house 0;girl 0 30 0 0;girl 0 30 0 0;"), 0, 0, 0, 0);
        // it fits nobody at 0: the first takes noon, the others cannot be sooner
        sisters(Due.told("house 0;girl 0 28 1 0;girl 0 28 1 0;girl 0 28 2 0;"), 1, 0, 12, 0, 0);
        // the second fits at 0 and has won already
        sisters(Due.told("house 0;girl 0 28 1 0;girl 0 30 1 0;girl 0 28 2 0;"), 0, 1, 0, 0, 0);
        SlipperFits x = Due.told("noon 7;house 0;girl 0 40 0 0;girl 0 28 1 0;girl 0 40 1 0;girl 0 27 3 0;she 3;");
        sisters(x, 1, 1, 0, 7, 0, 0);
        x.pad(1, 4);
        sisters(x, 1, 3, 0, 0, 0, 7);
        x.soak(3);
        sisters(x, 1, 3, 0, 0, 0, 7);
        x.pad(3, 3);
        sisters(x, 0, 3, 0, 0, 0, 0);
        // a later one takes an hour that an earlier one does not undo
        SlipperFits worn = Due.told("shoe 30 0 2;house 0;girl 0 30 0 0;girl 0 31 0 0;");
        sisters(worn, 0, 0, 0, 0);
        worn.attempt();
        sisters(worn, 0, 1, 0, 0);
    }

    private static void odd(SlipperFits x, int g, int hour, int above, int below) {
        DUE.is("odds(" + g + ", " + hour + ", 0)", x.odds(g, hour, 0), above);
        DUE.is("odds(" + g + ", " + hour + ", 1)", x.odds(g, hour, 1), below);
    }

    private static void odds() {
        SlipperFits x = Due.told("house 0;house 1;girl 0 30 1 2;girl 0 28 1 6;girl 0 29 1 4;girl 1 30 9 4;girl 1 28 2 0;girl 1 27 2 8;");
        odd(x, 0, 11, 1, 1);
        odd(x, 0, 12, 3, 4);
        odd(x, 0, 23, 3, 4);
        odd(x, 1, 0, 0, 1);
        odd(x, 1, 12, 3, 4);
        odd(x, 2, 12, 1, 1);
        odd(x, 3, 12, 0, 1);
        odd(x, 4, 12, 1, 1);
        odd(x, 5, 12, 1, 1);
        odd(x, 5, 0, 0, 1);
        x.soak(0);
        odd(x, 0, 12, 3, 4);
        x.pad(1, 2);
        odd(x, 1, 0, 1, 1);
        odd(x, 1, 13, 1, 4);
        DUE.is("odds(6, 99, 9)", x.odds(6, 99, 9), UNKNOWN);
        DUE.is("odds(0, 24, 0)", x.odds(0, 24, 0), OUTSIDE);
        DUE.is("odds(0, -1, 0)", x.odds(0, -1, 0), OUTSIDE);
        DUE.is("odds(0, 0, 2)", x.odds(0, 0, 2), OUTSIDE);
        DUE.is("odds(0, 0, -1)", x.odds(0, 0, -1), OUTSIDE);
        SlipperFits worn = Due.told("shoe 30 0 1;house 0;girl 0 30 1 3;");
        odd(worn, 0, 12, 5, 8);
        worn.attempt();
        odd(worn, 0, 12, 3, 8);
        odd(worn, 0, 11, 0, 1);
    }
}
