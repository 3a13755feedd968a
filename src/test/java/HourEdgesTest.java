import java.math.BigInteger;

/** Section 2 of the document's terms and promises 5 to 15, sentence by sentence, at their bounds. */
public final class HourEdgesTest {
    private static final Due DUE = new Due("HourEdgesTest");
    private static final int NONE = SlipperFits.NONE, UNKNOWN = SlipperFits.UNKNOWN, OUTSIDE = SlipperFits.OUTSIDE, NOT = SlipperFits.NOT;

    public static void main(String[] args) {
        told();
        toldWithout();
        houses();
        girls();
        hoursOfTheDay();
        fromNoonOn();
        stairs();
        padded();
        soaked();
        atLeastNothing();
        feet();
        glass();
        fits();
        heraldAtFirst();
        goes();
        toTry();
        gladGirls();
        attempts();
        passes();
        hoursWithoutEnd();
        soaks();
        pads();
        moves();
        drifts();
        draws();
        wanders();
        soaksByDraw();
        DUE.end();
    }

    // ---- told, house, girl

    private static void told() {
        DUE.says("0 HOUSES, 1 ways, 2 GIRLS, 3 bytes of THE TEXT, 4 S, 5 T, 6 W, 7 noon, 8 SHE");
        SlipperFits x = Due.told("shoe 41 2 3;noon 5;house 0;house 0;house 0;way 0 1;way 1 2;girl 0 41 0 0;girl 0 39 0 0;girl 1 3 0 0;girl 0 40 0 0;she 3;");
        x.feed('a');
        x.feed('b');
        int[] list = {3, 2, 4, 2, 41, 2, 3, 5, 3};
        for (int what = 0; what < 9; what++) {
            DUE.is("told(" + what + ")", x.told(what), list[what]);
        }
        DUE.says("9 HOUR, 10 where THE HERALD is");
        x.attempt();
        x.go(1);
        x.go(2);
        DUE.is("told(9)", x.told(9), 2);
        DUE.is("told(10)", x.told(10), 2);
        DUE.says("11 TRIES, 12 GLASS, 13 who is MARRIED (a SET), 14 FOUND (1, 0), 15 what was SEEN, 16 STEPS, 17 lines of THE BOOK.");
        for (int i = 0; i < 4; i++) {
            x.write(0, 0, true);
        }
        for (int i = 0; i < 3; i++) {
            x.step(0);
        }
        x.see(0, true);
        x.see(0, true);
        int[] night = {3, 42, 3, 1, 2, 3, 4};
        for (int what = 11; what < 18; what++) {
            DUE.is("told(" + what + ")", x.told(what), night[what - 11]);
        }
        DUE.says("lines of THE BOOK. OUTSIDE.");
        DUE.bounds("told", 0, 17, OUTSIDE, n -> x.told(n));
    }

    private static void toldWithout() {
        DUE.says("(NONE without GIRLS)");
        DUE.is("told(8) of a new object", new SlipperFits().told(8), NONE);
        DUE.is("told(8) with a house alone", Due.told("house 0;").told(8), NONE);
        DUE.is("told(8) with one girl", Due.told("house 0;girl 0 1 0 0;").told(8), 0);
        DUE.says("(NONE without HOUSES)");
        DUE.is("told(10) of a new object", new SlipperFits().told(10), NONE);
        DUE.is("told(10) of an empty list", Due.told("").told(10), NONE);
        DUE.is("told(10) with one house", Due.told("house 0;").told(10), 0);
    }

    private static void houses() {
        SlipperFits x = Due.told("house 9;house 0;house 3;house 4;house 5;house 6;way 0 5;way 1 0;way 5 4;girl 0 1 0 0;girl 5 1 0 0;"
            + "girl 0 1 0 0;girl 0 1 0 0;girl 0 1 0 0;girl 0 1 0 0;");
        DUE.says("Of a HOUSE: what = 0 stairs,");
        DUE.is("house(0, 0)", x.house(0, 0), 9);
        DUE.is("house(1, 0)", x.house(1, 0), 0);
        DUE.is("house(5, 0)", x.house(5, 0), 6);
        DUE.says("1 to which ways lead (a SET of HOUSES),");
        int[] ways = {34, 1, 0, 0, 32, 17};
        for (int h = 0; h < 6; h++) {
            DUE.is("house(" + h + ", 1)", x.house(h, 1), ways[h]);
        }
        DUE.says("2 GIRLS in it (a SET).");
        int[] girls = {61, 0, 0, 0, 0, 2};
        for (int h = 0; h < 6; h++) {
            DUE.is("house(" + h + ", 2)", x.house(h, 2), girls[h]);
        }
        DUE.says("A SET is a whole number, bit k for k (of GIRLS, if nothing else is told).");
        x.move(1, 0);
        DUE.is("house(0, 2) with all", x.house(0, 2), 63);
        DUE.is("house(5, 2) with none", x.house(5, 2), 0);
        DUE.says("2 GIRLS in it (a SET). UNKNOWN, OUTSIDE.");
        DUE.bounds("house(n, 0)", 0, 5, UNKNOWN, h -> x.house(h, 0));
        DUE.bounds("house(0, n)", 0, 2, OUTSIDE, what -> x.house(0, what));
        DUE.is("house(6, 3)", x.house(6, 3), UNKNOWN);
        SlipperFits one = Due.told("house 0;");
        DUE.is("house(0, 0) of one", one.house(0, 0), 0);
        DUE.is("house(1, 0) of one", one.house(1, 0), UNKNOWN);
    }

    private static void girls() {
        SlipperFits x = Due.told("noon 3;house 0;house 2;girl 1 26 2 5;girl 0 99 9 8;girl 0 1 0 0;girl 1 28 0 0;girl 1 29 0 0;girl 1 30 0 0;gait 1 abcabc;gait 2 ab;");
        DUE.says("Of a GIRL: what = 0 HOUSE, 1 Z, 2 S, 3 Q, 4 PADDING,");
        x.pad(1, 5);
        x.pad(0, 1);
        int[][] told = {{1, 26, 2, 5, 1}, {0, 99, 9, 8, 5}, {0, 1, 0, 0, 0}};
        for (int g = 0; g < 3; g++) {
            for (int what = 0; what < 5; what++) {
                DUE.is("girl(" + g + ", " + what + ")", x.girl(g, what), told[g][what]);
            }
        }
        DUE.says("6 FOOT at HOUR,");
        DUE.is("girl(0, 6) at 0", x.girl(0, 6), 29);
        x.pass(2);
        DUE.is("girl(0, 6) at 2", x.girl(0, 6), 29);
        x.pass(1);
        DUE.is("girl(0, 6) at noon", x.girl(0, 6), 31);
        DUE.says("7 whether it FITS her at HOUR (1, 0),");
        DUE.is("girl(0, 7): 31", x.girl(0, 7), 0);
        DUE.is("girl(3, 7): 30", x.girl(3, 7), 1);
        DUE.is("girl(4, 7): 31", x.girl(4, 7), 0);
        x.soak(5);
        DUE.is("girl(5, 7): 29", x.girl(5, 7), 1);
        x.pass(3);
        DUE.is("girl(5, 7): 29 yet", x.girl(5, 7), 1);
        x.pass(1);
        DUE.is("girl(5, 7): 32", x.girl(5, 7), 0);
        DUE.says("8 letters of her ROW.");
        DUE.is("girl(0, 8)", x.girl(0, 8), 1);
        DUE.is("girl(1, 8)", x.girl(1, 8), 6);
        DUE.is("girl(2, 8)", x.girl(2, 8), 2);
        DUE.says("8 letters of her ROW. UNKNOWN, OUTSIDE.");
        DUE.bounds("girl(n, 0)", 0, 5, UNKNOWN, g -> x.girl(g, 0));
        DUE.bounds("girl(0, n)", 0, 8, OUTSIDE, what -> x.girl(0, what));
        DUE.is("girl(6, 9)", x.girl(6, 9), UNKNOWN);
        DUE.is("girl(1, 0) of one", Due.told("house 0;girl 0 1 0 0;").girl(1, 0), UNKNOWN);
    }

    // ---- FOOT and GLASS

    private static void hoursOfTheDay() {
        DUE.says("HOURS are counted from 0; the hour of the day is that left over by 24.");
        SlipperFits x = Due.told("noon 23;house 0;girl 0 30 4 0;");
        DUE.is("told(9)", x.told(9), 0);
        int[] hours = {0, 22, 23, 24, 25, 46, 47, 48, 71, 72, 99983, 99984, 99999};
        int[] feet = {30, 30, 34, 30, 30, 30, 34, 30, 34, 30, 34, 30, 30};
        for (int i = 0; i < hours.length; i++) {
            DUE.is("foot(0, " + hours[i] + ")", x.foot(0, hours[i]), feet[i]);
        }
        x.pass(23);
        DUE.is("girl(0, 6) at 23", x.girl(0, 6), 34);
        x.pass(1);
        DUE.is("girl(0, 6) at 24", x.girl(0, 6), 30);
    }

    private static void fromNoonOn() {
        DUE.says("FOOT of a GIRL at an hour: Z, S more from noon on (hour of the day H and later),");
        for (int noon : new int[] {0, 1, 12, 22, 23}) {
            SlipperFits x = Due.told("noon " + noon + ";house 0;girl 0 30 9 8;girl 0 50 0 8;girl 0 30 9 0;");
            for (int hour = 0; hour < 48; hour++) {
                int due = hour % 24 >= noon ? 39 : 30;
                DUE.is("foot(0, " + hour + "), noon " + noon, x.foot(0, hour), due);
                DUE.is("foot(1, " + hour + ") by S 0", x.foot(1, hour), 50);
                DUE.is("foot(2, " + hour + "): the chance does not count", x.foot(2, hour), due);
            }
        }
    }

    private static void stairs() {
        DUE.says("as many more as her HOUSE has stairs,");
        SlipperFits x = Due.told("house 0;house 1;house 9;girl 0 30 0 0;girl 1 30 0 0;girl 2 30 0 0;");
        DUE.is("no stairs", x.foot(0, 0), 30);
        DUE.is("1", x.foot(1, 0), 31);
        DUE.is("9", x.foot(2, 0), 39);
        x.move(0, 2);
        DUE.is("moved to 9", x.foot(0, 0), 39);
        x.go(0);
        DUE.is("the herald's house does not count", x.foot(1, 0), 31);
    }

    private static void padded() {
        DUE.says("what she is PADDED by (0 .. 5; 0 at first),");
        SlipperFits x = Due.told("house 0;girl 0 30 0 0;girl 0 40 0 0;");
        DUE.is("girl(0, 4) at first", x.girl(0, 4), 0);
        DUE.is("foot(0, 0) at first", x.foot(0, 0), 30);
        for (int n = 0; n <= 5; n++) {
            x.pad(0, n);
            DUE.is("foot(0, 0) padded by " + n, x.foot(0, 0), 30 + n);
            DUE.is("foot(1, 0) is not", x.foot(1, 0), 40);
        }
    }

    private static void soaked() {
        DUE.says("3 less if she is SOAKED then (in the hour in which she soaked the latest time, and 3 more);");
        SlipperFits x = Due.told("house 0;girl 0 30 0 0;girl 0 40 0 0;");
        x.pass(21);
        x.soak(0);
        for (int hour = 17; hour < 30; hour++) {
            DUE.is("foot(0, " + hour + ") soaked at 21", x.foot(0, hour), hour >= 21 && hour <= 24 ? 27 : 30);
            DUE.is("foot(1, " + hour + ")", x.foot(1, hour), 40);
        }
        x.pass(2);
        x.soak(0);
        for (int hour = 17; hour < 30; hour++) {
            DUE.is("foot(0, " + hour + ") soaked at 23", x.foot(0, hour), hour >= 23 && hour <= 26 ? 27 : 30);
        }
        DUE.is("foot(0, 21 + 24) on the next day", x.foot(0, 45), 30);
        SlipperFits first = Due.told("house 0;girl 0 30 0 0;");
        for (int hour = 0; hour < 5; hour++) {
            DUE.is("foot(0, " + hour + ") never soaked", first.foot(0, hour), 30);
        }
        first.soak(0);
        for (int hour = 0; hour < 6; hour++) {
            DUE.is("foot(0, " + hour + ") soaked at 0", first.foot(0, hour), hour < 4 ? 27 : 30);
        }
    }

    private static void atLeastNothing() {
        DUE.says("0 at least.");
        SlipperFits x = Due.told("shoe 1 1 0;house 0;girl 0 1 0 0;girl 0 2 0 0;girl 0 3 0 0;girl 0 4 0 0;");
        int[] feet = {0, 0, 0, 1};
        for (int g = 0; g < 4; g++) {
            x.soak(g);
            DUE.is("foot(" + g + ", 0)", x.foot(g, 0), feet[g]);
            DUE.is("girl(" + g + ", 6)", x.girl(g, 6), feet[g]);
            DUE.is("girl(" + g + ", 7): 0 fits a shoe of 1 with 1 to spare", x.girl(g, 7), 1);
        }
        x.pad(0, 1);
        DUE.is("foot padded by 1", x.foot(0, 0), 0);
        x.pad(0, 2);
        DUE.is("foot padded by 2", x.foot(0, 0), 0);
        x.pad(0, 3);
        DUE.is("foot padded by 3: the water is taken last", x.foot(0, 0), 1);
        SlipperFits most = Due.told("noon 0;house 9;girl 0 99 9 0;");
        most.pad(0, 5);
        DUE.is("the longest", most.foot(0, 0), 122);
    }

    private static void feet() {
        DUE.says("FOOT at an hour (0 .. 99999; SOAKED counting). UNKNOWN, OUTSIDE.");
        SlipperFits x = Due.told("house 0;girl 0 30 1 0;girl 0 40 0 0;");
        DUE.bounds("foot(0, n)", 0, 99999, OUTSIDE, hour -> x.foot(0, hour));
        DUE.bounds("foot(n, 0)", 0, 1, UNKNOWN, g -> x.foot(g, 0));
        DUE.is("foot(2, 100000)", x.foot(2, 100000), UNKNOWN);
        DUE.is("foot(0, 99999): at 15 of the day", x.foot(0, 99999), 31);
        x.soak(0);
        DUE.is("foot(0, 3)", x.foot(0, 3), 27);
        DUE.is("foot(0, 4)", x.foot(0, 4), 30);
        DUE.is("told(9): nothing passes", x.told(9), 0);
    }

    private static void glass() {
        DUE.says("GLASS: S of the shoe and TRIES / W (W 0: S).");
        DUE.says("/ cuts towards 0.");
        SlipperFits x = Due.told("shoe 30 0 3;house 0;girl 0 99 0 0;");
        int[] longs = {30, 30, 30, 31, 31, 31, 32, 32, 32, 33};
        for (int tries = 0; tries < longs.length; tries++) {
            DUE.is("told(11)", x.told(11), tries);
            DUE.is("told(12) of " + tries, x.told(12), longs[tries]);
            x.attempt();
        }
        SlipperFits most = Due.told("shoe 30 0 99;house 0;girl 0 99 0 0;");
        for (int tries = 0; tries < 98; tries++) {
            most.attempt();
        }
        DUE.is("told(12) of 98 by 99", most.told(12), 30);
        most.attempt();
        DUE.is("told(12) of 99 by 99", most.told(12), 31);
        SlipperFits never = Due.told("shoe 30 0 0;house 0;girl 0 99 0 0;");
        SlipperFits each = Due.told("shoe 30 0 1;house 0;girl 0 99 0 0;");
        for (int tries = 0; tries < 120; tries++) {
            never.attempt();
            each.attempt();
        }
        DUE.is("told(12): never", never.told(12), 30);
        DUE.is("told(12): each", each.told(12), each.told(11) + 30);
    }

    private static void fits() {
        DUE.says("It FITS, if FOOT is at most GLASS, and T or less below it.");
        for (int spare : new int[] {0, 1, 8, 9}) {
            SlipperFits x = Due.told("shoe 50 " + spare + " 0;house 0;girl 0 51 0 0;girl 0 50 0 0;girl 0 " + (50 - spare) + " 0 0;girl 0 " + (49 - spare) + " 0 0;");
            DUE.is("one over", x.girl(0, 7), 0);
            DUE.is("like it", x.girl(1, 7), 1);
            DUE.is(spare + " below", x.girl(2, 7), 1);
            DUE.is(spare + " and 1 below", x.girl(3, 7), 0);
        }
    }

    // ---- THE HERALD

    private static void heraldAtFirst() {
        DUE.says("THE HERALD is in HOUSE 0 at first, at HOUR 0.");
        SlipperFits x = Due.told("house 0;house 0;way 0 1;girl 1 30 0 0;");
        DUE.is("told(10)", x.told(10), 0);
        DUE.is("told(9)", x.told(9), 0);
        DUE.is("told(9) of a new object", new SlipperFits().told(9), 0);
    }

    private static void goes() {
        DUE.says("He goes a way in an hour.");
        SlipperFits x = Due.told("house 0;house 0;house 0;house 0;house 0;house 0;way 0 5;way 5 1;way 1 2;girl 1 30 0 0;");
        DUE.is("go(5)", x.go(5), 1);
        DUE.is("told(10)", x.told(10), 5);
        DUE.is("go(0): the way back", x.go(0), 2);
        DUE.says("THE HERALD goes to a HOUSE, an hour passes: HOUR. UNKNOWN, NOT: no way leads there.");
        DUE.is("go(0) where he is", x.go(0), NOT);
        DUE.is("go(1): two ways off", x.go(1), NOT);
        DUE.is("go(4): no way at all", x.go(4), NOT);
        DUE.is("go(-1)", x.go(-1), UNKNOWN);
        DUE.is("go(6)", x.go(6), UNKNOWN);
        DUE.is("go(MAX)", x.go(Integer.MAX_VALUE), UNKNOWN);
        DUE.is("go(MIN)", x.go(Integer.MIN_VALUE), UNKNOWN);
        DUE.is("go(32): no bit that wraps around", x.go(32), UNKNOWN);
        DUE.is("told(9): refused, no hour passes", x.told(9), 2);
        DUE.is("told(10)", x.told(10), 0);
        DUE.is("go(5) behind it", x.go(5), 3);
        DUE.is("go(0) without houses", new SlipperFits().go(0), UNKNOWN);
    }

    private static void toTry() {
        DUE.says("TO TRY: on each GIRL in his HOUSE that is not MARRIED, in order: one TRY more each");
        SlipperFits x = Due.told("shoe 30 0 0;house 0;house 0;way 0 1;girl 0 30 0 0;girl 1 30 0 0;girl 0 29 0 0;girl 0 30 0 0;she 2;");
        DUE.is("attempt(): the other house's not", x.attempt(), 9);
        DUE.is("told(11): three in the house", x.told(11), 3);
        DUE.is("told(13)", x.told(13), 9);
        DUE.is("attempt(): the married not", x.attempt(), 0);
        DUE.is("told(11): one more", x.told(11), 4);
        x.move(3, 1);
        x.go(1);
        DUE.is("attempt(): the married not, wherever", x.attempt(), 2);
        DUE.is("told(11): one more", x.told(11), 5);
        DUE.is("attempt(): nobody is left", x.attempt(), 0);
        DUE.is("told(11): none more", x.told(11), 5);
        DUE.says("(GLASS counts as it is ahead of that TRY;");
        SlipperFits worn = Due.told("shoe 30 0 2;house 0;girl 0 30 0 0;girl 0 30 0 0;girl 0 30 0 0;girl 0 31 0 0;girl 0 31 0 0;girl 0 32 0 0;she 5;");
        DUE.is("attempt(): at 30 30 31 31 32 32", worn.attempt(), 1 + 2 + 8 + 32);
        DUE.is("told(12) behind six tries", worn.told(12), 33);
        DUE.says("9999 at most);");
        // 512 calls of six tries each do not come near: what can be seen is that it counts on
        SlipperFits many = Due.told("house 0;girl 0 9 0 0;girl 0 9 0 0;girl 0 9 0 0;girl 0 9 0 0;girl 0 9 0 0;girl 0 9 0 0;");
        for (int i = 1; i <= 400; i++) {
            many.attempt();
        }
        DUE.is("told(11) of 400 times six", many.told(11), 2400);
    }

    private static void gladGirls() {
        DUE.says("who is not SHE and whom it FITS is MARRIED;");
        SlipperFits x = Due.told("house 0;girl 0 30 0 0;girl 0 29 0 0;girl 0 28 0 0;girl 0 31 0 0;girl 0 30 0 0;girl 0 30 0 0;she 4;");
        DUE.is("attempt()", x.attempt(), 1 + 2 + 16 + 32);
        DUE.is("told(13): without her", x.told(13), 1 + 2 + 32);
        DUE.says("if it FITS HER, she is FOUND.");
        DUE.is("told(14)", x.told(14), 1);
        DUE.is("attempt(): she is tried again", x.attempt(), 16);
        x.pad(4, 5);
        DUE.is("attempt(): 35", x.attempt(), 0);
        DUE.is("told(14): FOUND yet", x.told(14), 1);
        SlipperFits not = Due.told("house 0;girl 0 31 0 0;girl 0 30 0 0;");
        not.attempt();
        DUE.is("told(14): it does not fit her", not.told(14), 0);
        DUE.is("told(13): it fits the other", not.told(13), 2);
    }

    private static void attempts() {
        DUE.says("TO TRY: whom it FITTED (a SET). NOT: no HOUSES.");
        DUE.is("attempt() of a new object", new SlipperFits().attempt(), NOT);
        DUE.is("attempt() of an empty list", Due.told("noon 3;").attempt(), NOT);
        DUE.is("attempt() in an empty house", Due.told("house 0;").attempt(), 0);
        DUE.is("attempt() with nobody there", Due.told("house 0;house 0;girl 1 30 0 0;").attempt(), 0);
        DUE.is("attempt() of all", Due.told("house 0;girl 0 30 0 0;girl 0 30 0 0;girl 0 30 0 0;girl 0 30 0 0;girl 0 30 0 0;girl 0 30 0 0;").attempt(), 63);
        SlipperFits x = Due.told("house 0;girl 0 33 0 0;girl 0 20 0 0;");
        x.soak(0);
        DUE.is("attempt() of one who is wet", x.attempt(), 1);
        DUE.is("told(9): no hour passes", x.told(9), 0);
        x.pass(4);
        DUE.is("attempt() when she is dry", x.attempt(), 0);
    }

    private static void passes() {
        DUE.says("n hours pass (1 .. 999), all stay: HOUR. OUTSIDE.");
        SlipperFits x = Due.told("house 0;house 0;way 0 1;girl 1 30 0 0;");
        DUE.bounds("pass", 1, 999, OUTSIDE, n -> x.pass(n));
        DUE.is("told(9): 1 and 2 and 998 and 999", x.told(9), 2000);
        DUE.is("told(10)", x.told(10), 0);
        DUE.is("girl(0, 0)", x.girl(0, 0), 1);
        DUE.is("pass(1)", x.pass(1), 2001);
        DUE.is("pass(0)", x.pass(0), OUTSIDE);
        DUE.is("told(9) behind what was refused", x.told(9), 2001);
        DUE.is("pass(7) without houses", new SlipperFits().pass(7), 7);
    }

    /** HOUR itself has no bound, though foot() and write() have. */
    private static void hoursWithoutEnd() {
        DUE.says("HOURS are counted from 0;");
        SlipperFits x = Due.told("noon 12;house 0;house 0;way 0 1;girl 0 30 1 0;girl 1 30 0 0;");
        for (int i = 0; i < 102; i++) {
            x.pass(999);
        }
        DUE.is("told(9)", x.told(9), 101898);
        x.pass(5);
        DUE.is("girl(0, 6) at 23 of the day", x.girl(0, 6), 31);
        x.pass(1);
        DUE.is("girl(0, 6) at 0 of the day", x.girl(0, 6), 30);
        DUE.is("soak(0)", x.soak(0), 0);
        DUE.is("girl(0, 5)", x.girl(0, 5), 4);
        DUE.is("girl(0, 6)", x.girl(0, 6), 27);
        DUE.is("round(0, NONE): dry in 4", x.round(0, NONE), 4);
        DUE.is("foot(0, 99999)", x.foot(0, 99999), 31);
        DUE.is("foot(0, 101904): outside, though it is now", x.foot(0, 101904), OUTSIDE);
    }

    private static void soaks() {
        DUE.says("A GIRL SOAKS now: 1 she was SOAKED, 0 she was not. UNKNOWN.");
        SlipperFits x = Due.told("house 0;girl 0 30 0 0;girl 0 30 0 0;");
        DUE.is("soak(0)", x.soak(0), 0);
        DUE.is("soak(0) at once", x.soak(0), 1);
        x.pass(3);
        DUE.is("soak(0) 3 later", x.soak(0), 1);
        x.pass(4);
        DUE.is("soak(0) 4 later", x.soak(0), 0);
        DUE.is("soak(1)", x.soak(1), 0);
        DUE.is("soak(2)", x.soak(2), UNKNOWN);
        DUE.is("soak(-1)", x.soak(-1), UNKNOWN);
        DUE.is("soak(MAX)", x.soak(Integer.MAX_VALUE), UNKNOWN);
        DUE.is("soak(MIN)", x.soak(Integer.MIN_VALUE), UNKNOWN);
        DUE.is("soak(0) without girls", new SlipperFits().soak(0), UNKNOWN);
        DUE.says("5 hours for which she is SOAKED yet (this one, too; 0: not),");
        int[] left = {4, 3, 2, 1, 0, 0};
        for (int hour = 0; hour < left.length; hour++) {
            DUE.is("girl(0, 5) " + hour + " later", x.girl(0, 5), left[hour]);
            x.pass(1);
        }
        x.pass(18);
        DUE.is("girl(0, 5) a day later", x.girl(0, 5), 0);
        DUE.is("girl(0, 5) at first", Due.told("house 0;girl 0 30 0 0;").girl(0, 5), 0);
    }

    private static void pads() {
        DUE.says("A GIRL is PADDED by n (0 .. 5): what she was. UNKNOWN, OUTSIDE.");
        SlipperFits x = Due.told("house 0;girl 0 30 0 0;girl 0 30 0 0;");
        DUE.bounds("pad(0, n)", 0, 5, OUTSIDE, n -> x.pad(0, n));
        DUE.is("girl(0, 4)", x.girl(0, 4), 5);
        DUE.is("pad(0, 0)", x.pad(0, 0), 5);
        DUE.is("pad(0, 3)", x.pad(0, 3), 0);
        DUE.is("pad(0, 6)", x.pad(0, 6), OUTSIDE);
        DUE.is("pad(0, -1)", x.pad(0, -1), OUTSIDE);
        DUE.is("girl(0, 4) behind what was refused", x.girl(0, 4), 3);
        DUE.is("girl(1, 4)", x.girl(1, 4), 0);
        DUE.bounds("pad(n, 1)", 0, 1, UNKNOWN, g -> x.pad(g, 1));
        DUE.is("pad(2, 6)", x.pad(2, 6), UNKNOWN);
        DUE.is("pad(0, 1) without girls", new SlipperFits().pad(0, 1), UNKNOWN);
    }

    private static void moves() {
        DUE.says("A GIRL moves to a HOUSE: where she was. UNKNOWN.");
        SlipperFits x = Due.told("house 0;house 0;house 0;girl 0 30 0 0;girl 2 30 0 0;");
        DUE.is("move(0, 2)", x.move(0, 2), 0);
        DUE.is("move(0, 2) where she is", x.move(0, 2), 2);
        DUE.is("move(0, 3)", x.move(0, 3), UNKNOWN);
        DUE.is("move(0, -1)", x.move(0, -1), UNKNOWN);
        DUE.is("move(2, 0)", x.move(2, 0), UNKNOWN);
        DUE.is("move(-1, 0)", x.move(-1, 0), UNKNOWN);
        DUE.is("move(2, 3)", x.move(2, 3), UNKNOWN);
        DUE.is("girl(0, 0) behind what was refused", x.girl(0, 0), 2);
        DUE.bounds("move(n, 0)", 0, 1, UNKNOWN, g -> x.move(g, 0));
        DUE.bounds("move(1, n)", 0, 2, UNKNOWN, h -> x.move(1, h));
        DUE.is("told(9): no hour passes", x.told(9), 0);
        DUE.is("move(0, 0) without girls", Due.told("house 0;").move(0, 0), UNKNOWN);
    }

    // ---- BY DRAWS

    private static BigInteger seed = BigInteger.ZERO;

    private static int draw(int n) {
        seed = seed.multiply(BigInteger.valueOf(1103515245)).add(BigInteger.valueOf(12345)).mod(BigInteger.ONE.shiftLeft(31));
        return seed.divide(BigInteger.valueOf(65536)).mod(BigInteger.valueOf(n)).intValue();
    }

    private static void drifts() {
        DUE.says("n hours BY DRAWS (1 .. 99): where SHE is. OUTSIDE, NOT: no GIRLS.");
        SlipperFits x = Due.told("house 0;house 0;way 0 1;girl 0 30 0 0;");
        DUE.bounds("drift", 1, 99, OUTSIDE, n -> x.drift(n));
        DUE.is("told(9): 1 and 2 and 98 and 99", x.told(9), 200);
        DUE.is("drift(0)", x.drift(0), OUTSIDE);
        DUE.is("drift(100)", x.drift(100), OUTSIDE);
        DUE.is("told(9) behind what was refused", x.told(9), 200);
        DUE.is("drift(1): where SHE is", x.drift(1), x.girl(0, 0));
        DUE.is("drift(1) of a new object", new SlipperFits().drift(1), NOT);
        DUE.is("drift(99) without girls", Due.told("house 0;").drift(99), NOT);
        DUE.is("drift(0) without girls", Due.told("house 0;").drift(0), OUTSIDE);
        DUE.is("drift(100) without girls", Due.told("house 0;").drift(100), OUTSIDE);
    }

    private static void draws() {
        DUE.says("BY DRAWS: THE SEED (0 at first: each DRAW it becomes it times 1103515245 and 12345, left over by 2 to the 31;");
        DUE.is("seed at first", new SlipperFits().seed(0), 0);
        SlipperFits x = Due.told("house 0;girl 0 30 0 0;");
        x.drift(1);
        // 12345, then 1406932606: 21468 of 6 is 0, so she soaks by a third, 654583775
        DUE.is("girl(0, 5)", x.girl(0, 5), 4);
        DUE.is("seed behind 0: three draws", x.seed(2147483647), 654583775);
        x.drift(1);
        // 1043980748, then 288979989: 4409 of 6 is 5, so there is no third
        DUE.is("seed behind 2147483647: two draws", x.seed(0), 288979989);
        for (int v : new int[] {1, 12345, 65535, 65536, 1073741824, 2147483646}) {
            SlipperFits y = Due.told("house 0;girl 0 30 0 0;");
            y.seed(v);
            y.drift(1);
            seed = BigInteger.valueOf(v);
            draw(1);
            if (draw(6) == 0) {
                draw(1);
            }
            DUE.is("seed behind " + v, y.seed(0), seed.intValue());
        }
    }

    private static void wanders() {
        DUE.says("n hours: she goes to the i-th of the HOUSES to which ways lead from hers (rising),"
            + " i a DRAW of how many there are and 1 (the last: she stays);");
        DUE.says("the DRAW of n is it / 65536, left over by n):");
        int[] from0 = {2, 3, 5, 0};
        boolean[] gone = new boolean[4];
        for (int v = 0; v < 60; v++) {
            // the ways are told falling and either way round: it is their HOUSES that rise
            SlipperFits x = Due.told("house 0;house 0;house 0;house 0;house 0;house 0;way 5 0;way 0 3;way 2 0;way 1 4;girl 1 30 0 0;girl 0 30 0 0;she 1;");
            x.seed(v * 7654321);
            seed = BigInteger.valueOf(v * 7654321);
            int i = draw(4);
            gone[i] = true;
            DUE.is("drift(1) by a draw of " + i, x.drift(1), from0[i]);
            DUE.is("girl(1, 0)", x.girl(1, 0), from0[i]);
            DUE.is("girl(0, 0) stays", x.girl(0, 0), 1);
            DUE.is("told(10) stays", x.told(10), 0);
            DUE.is("told(9)", x.told(9), 1);
        }
        DUE.holds("each of the four was drawn", gone[0] && gone[1] && gone[2] && gone[3]);
        for (int v = 0; v < 30; v++) {
            SlipperFits x = Due.told("house 0;house 0;house 0;way 1 2;way 0 1;girl 1 30 0 0;");
            x.seed(v * 7654321);
            seed = BigInteger.valueOf(v * 7654321);
            DUE.is("drift(1): the least is 0, hers is not", x.drift(1), new int[] {0, 2, 1}[draw(3)]);
        }
        DUE.is("drift(99) where no way leads", Due.told("house 0;house 0;girl 1 30 0 0;").drift(99), 1);
    }

    private static void soaksByDraw() {
        DUE.says("then the hour goes on; then by a DRAW of 6 of 0 a DRAW of GIRLS SOAKS.");
        int soaked = 0;
        for (int v = 0; v < 60; v++) {
            SlipperFits x = Due.told("house 0;girl 0 30 0 0;girl 0 30 0 0;girl 0 30 0 0;she 1;");
            x.seed(v * 7654321);
            seed = BigInteger.valueOf(v * 7654321);
            draw(1);
            int who = draw(6) == 0 ? draw(3) : NONE;
            x.drift(1);
            soaked += who == NONE ? 0 : 1 << 10 * who;
            for (int g = 0; g < 3; g++) {
                DUE.is("girl(" + g + ", 5)", x.girl(g, 5), g == who ? 4 : 0);
                DUE.is("foot(" + g + ", 0): the hour ahead is dry", x.foot(g, 0), 30);
                DUE.is("foot(" + g + ", 4)", x.foot(g, 4), g == who ? 27 : 30);
                DUE.is("foot(" + g + ", 5)", x.foot(g, 5), 30);
            }
            DUE.is("seed: no third draw without a 0", x.seed(0), seed.intValue());
        }
        DUE.holds("each of the three was drawn", (soaked & 1023) > 0 && (soaked >> 10 & 1023) > 0 && soaked >> 20 > 0);
    }
}
