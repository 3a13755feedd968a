/** What is TRIED, section 3 of the document's terms and promises 16 to 24, sentence by sentence, at their bounds. */
public final class TriedEdgesTest {
    private static final Due DUE = new Due("TriedEdgesTest");
    private static final int NONE = SlipperFits.NONE, UNKNOWN = SlipperFits.UNKNOWN, OUTSIDE = SlipperFits.OUTSIDE, NOT = SlipperFits.NOT;
    private static final int ALL_DAY = 0xffffff;
    private static final String SIX = "house 0;house 0;house 0;house 0;house 0;house 0;";
    private static final String ROW_OF_SIX = SIX + "way 0 1;way 1 2;way 2 3;way 3 4;way 4 5;";

    public static void main(String[] args) {
        nothingChanges();
        roundAtOnce();
        roundFar();
        roundDrying();
        roundLongest();
        roundFirst();
        roundHours();
        chaseAtOnce();
        chaseTurns();
        chaseCalls();
        fewest();
        rules();
        rulesPadding();
        ruleCalls();
        passes();
        passesCalls();
        apart();
        apartCalls();
        worn();
        wornMost();
        wornCalls();
        sistersAtFirst();
        sistersChoose();
        sistersCalls();
        odds();
        oddsAheadOfNoon();
        oddsCalls();
        DUE.end();
    }

    private static void nothingChanges() {
        DUE.says("TRIED from now (GLASS, PADDING, HOUSES as now, water drying hour by hour; nothing changes by it).");
        SlipperFits x = Due.told("shoe 30 2 1;house 0;house 1;way 0 1;girl 0 30 1 4;girl 1 26 2 5;");
        x.attempt();
        x.soak(0);
        x.pad(1, 2);
        x.pass(2);
        x.see(2, true);
        x.step(0);
        x.write(7, 1, true);
        x.feed('x');
        String before = Due.stateOf(x);
        x.round(1, NONE);
        x.round(0, 2);
        x.chase(1);
        x.chase(2);
        x.fewest();
        x.rule(0, 0);
        x.passes(1, 0, 12);
        x.apart(0, 1);
        x.worn(0, 1, 12);
        x.sisters(0, 0);
        x.sisters(2, 1);
        x.odds(0, 12, 0);
        x.could();
        x.next();
        x.walker();
        x.judge();
        x.foot(0, 99);
        x.fault();
        DUE.holds("all is as it was", Due.stateOf(x).equals(before));
    }

    // ---- ROUND

    private static void path(SlipperFits x, int g, int... houses) {
        DUE.is("round(" + g + ", NONE)", x.round(g, NONE), houses.length - 1);
        for (int i = 0; i < houses.length; i++) {
            DUE.is("round(" + g + ", " + i + ")", x.round(g, i), houses[i]);
        }
        DUE.is("round(" + g + ", " + houses.length + "): behind its end", x.round(g, houses.length), NONE);
    }

    private static void roundAtOnce() {
        DUE.says("so that he is in her HOUSE at an hour at which it FITS her: the fewest hours;");
        SlipperFits x = Due.told("shoe 30 1 1;house 0;house 0;way 0 1;girl 0 30 0 0;girl 1 30 0 0;girl 0 31 0 0;girl 0 29 0 0;girl 0 28 0 0;");
        path(x, 0, 0);
        path(x, 1, 0, 1);
        DUE.is("31 never", x.round(2, NONE), NONE);
        path(x, 3, 0);
        DUE.is("28 never", x.round(4, NONE), NONE);
        x.pad(4, 1);
        path(x, 4, 0);
        DUE.is("the girl that he is with fits not, the house of another does not count", x.round(2, 0), NONE);
        x.attempt();
        DUE.is("told(12) behind four tries", x.told(12), 34);
        DUE.is("GLASS as now", x.round(0, NONE), NONE);
        x.pad(0, 4);
        path(x, 0, 0);
        x.move(0, 1);
        path(x, 0, 0, 1);
    }

    private static void roundFar() {
        DUE.says("ROUND to a GIRL: he goes ways, or stays, hour by hour");
        SlipperFits x = Due.told(ROW_OF_SIX + "girl 5 30 0 0;girl 4 30 0 0;girl 0 30 0 0;");
        path(x, 0, 0, 1, 2, 3, 4, 5);
        path(x, 1, 0, 1, 2, 3, 4);
        path(x, 2, 0);
        x.go(1);
        path(x, 0, 1, 2, 3, 4, 5);
        path(x, 2, 1, 0);
        SlipperFits cut = Due.told(SIX + "way 0 1;way 2 3;way 3 4;girl 2 30 0 0;girl 5 30 0 0;girl 1 30 0 0;");
        DUE.is("no way leads there", cut.round(0, NONE), NONE);
        DUE.is("no way at all", cut.round(1, NONE), NONE);
        path(cut, 2, 0, 1);
        cut.move(0, 0);
        path(cut, 0, 0);
    }

    private static void roundDrying() {
        DUE.says("water drying hour by hour");
        SlipperFits x = Due.told(ROW_OF_SIX + "girl 3 33 0 0;girl 4 33 0 0;girl 0 30 0 0;");
        x.soak(0);
        x.soak(1);
        path(x, 0, 0, 1, 2, 3);
        DUE.is("wet for three hours more, and four ways off", x.round(1, NONE), NONE);
        x.soak(2);
        path(x, 2, 0, 0, 0, 0, 0);
        x.pass(1);
        DUE.is("an hour too late", x.round(0, NONE), NONE);
        path(x, 2, 0, 0, 0, 0);
        x.pass(2);
        path(x, 2, 0, 0);
        x.pass(1);
        path(x, 2, 0);
    }

    private static void roundLongest() {
        DUE.says("(48 hours at most)");
        // five ways off and an hour late for the one hour of the day: the longest that there can be
        SlipperFits x = Due.told("noon 23;" + ROW_OF_SIX + "girl 5 29 1 0;girl 5 28 2 0;shoe 30 0 0;girl 0 27 3 0;");
        x.pass(18);
        path(x, 0, 0, 1, 2, 3, 4, 5);
        x.pass(1);
        DUE.is("round(0, NONE) from 19", x.round(0, NONE), 28);
        DUE.is("round(0, 22): he may wait yet", x.round(0, 22), 0);
        DUE.is("round(0, 23): he waits in the lesser houses first", x.round(0, 23), 0);
        DUE.is("round(0, 24): he must go", x.round(0, 24), 1);
        DUE.is("round(0, 28)", x.round(0, 28), 5);
        DUE.is("round(0, 29)", x.round(0, 29), NONE);
        DUE.is("round(1, NONE) from 19", x.round(1, NONE), 28);
        x.pass(1);
        x.soak(2);
        DUE.is("round(2, NONE): wet at 23, so a day more", x.round(2, NONE), 27);
        SlipperFits never = Due.told("house 0;girl 0 29 0 0;shoe 30 0 0;");
        DUE.is("never", never.round(0, NONE), NONE);
        DUE.is("never, behind 0 hours", never.round(0, 0), NONE);
        DUE.is("never, behind 48 hours", never.round(0, 48), NONE);
    }

    private static void roundFirst() {
        DUE.says("of like ones the first (hour by hour the lesser HOUSE): where he is behind i hours; NONE.");
        SlipperFits two = Due.told(SIX + "way 0 4;way 4 1;way 0 2;way 2 5;way 5 1;way 0 3;way 3 1;girl 1 30 0 0;");
        path(two, 0, 0, 3, 1);
        // he is with her and waits: the lesser house first, if he is back in time
        SlipperFits waits = Due.told("noon 5;house 0;house 0;house 0;house 0;way 0 1;way 1 3;way 3 2;girl 2 29 1 0;girl 3 28 2 0;girl 1 28 2 0;shoe 30 0 0;");
        waits.go(1);
        waits.go(3);
        DUE.is("told(9)", waits.told(9), 2);
        path(waits, 1, 3, 1, 1, 3);
        path(waits, 2, 3, 1, 0, 1);
        path(waits, 0, 3, 1, 3, 2);
        waits.pass(1);
        path(waits, 1, 3, 1, 3);
        path(waits, 0, 3, 2, 2);
        waits.pass(1);
        path(waits, 1, 3, 3);
        path(waits, 0, 3, 2);
        waits.pass(1);
        path(waits, 1, 3);
        path(waits, 0, 3, 2);
    }

    private static void roundHours() {
        DUE.says("ROUND: i = NONE the hours, else where he is behind i hours; NONE. UNKNOWN.");
        SlipperFits x = Due.told("house 0;house 0;way 0 1;girl 1 30 0 0;girl 1 50 0 0;");
        DUE.is("round(0, NONE)", x.round(0, NONE), 1);
        DUE.is("round(0, 0)", x.round(0, 0), 0);
        DUE.is("round(0, 1)", x.round(0, 1), 1);
        DUE.is("round(0, 2)", x.round(0, 2), NONE);
        DUE.is("round(0, -2)", x.round(0, -2), NONE);
        DUE.is("round(0, MAX)", x.round(0, Integer.MAX_VALUE), NONE);
        DUE.is("round(0, MIN)", x.round(0, Integer.MIN_VALUE), NONE);
        DUE.is("round(1, 0)", x.round(1, 0), NONE);
        DUE.bounds("round(n, NONE)", 0, 1, UNKNOWN, g -> x.round(g, NONE));
        DUE.is("round(2, MAX)", x.round(2, Integer.MAX_VALUE), UNKNOWN);
        DUE.is("round(0, NONE) without girls", Due.told("house 0;").round(0, NONE), UNKNOWN);
        DUE.is("round(0, NONE) of a new object", new SlipperFits().round(0, NONE), UNKNOWN);
    }

    // ---- CHASE

    private static void chased(String list, int one, int two) {
        SlipperFits x = Due.told(list);
        DUE.is("chase(1) of " + list, x.chase(1), one);
        DUE.is("chase(2) of " + list, x.chase(2), two);
        DUE.is("fewest() of " + list, x.fewest(), one != NONE ? 1 : two != NONE ? 2 : NONE);
    }

    private static void chaseAtOnce() {
        DUE.says("CHASE with k heralds (1, 2): they choose HOUSES, then she one;");
        DUE.says("(0: at once)");
        chased("house 0;", 0, 0);
        chased("house 9;house 9;way 0 1;", 1, 0);
        chased("house 0;house 0;", NONE, 0);
        chased("house 0;house 0;house 0;", NONE, NONE);
        chased("house 0;house 0;house 0;way 2 1;", NONE, 1);
        chased("house 0;house 0;house 0;way 2 1;way 1 0;", 1, 1);
        DUE.says("she is met, if one is in her HOUSE.");
        SlipperFits x = Due.told("house 0;house 0;house 0;way 0 1;way 1 2;girl 2 30 0 0;girl 0 30 0 0;");
        DUE.is("chase(1): where they are now does not count", x.chase(1), 1);
        x.go(1);
        DUE.is("chase(1): where they are now does not count", x.chase(1), 1);
    }

    private static void chaseTurns() {
        DUE.says("then by turns each of them goes a way or stays, then she does;");
        String[] row = {"", "", "way 0 1;", "way 0 1;way 1 2;", "way 0 1;way 1 2;way 2 3;", "way 0 1;way 1 2;way 2 3;way 3 4;",
            "way 0 1;way 1 2;way 2 3;way 3 4;way 4 5;"};
        int[] alone = {0, 0, 1, 1, 2, 2, 3};
        for (int houses = 1; houses <= 6; houses++) {
            chased("house 0;".repeat(houses) + row[houses], alone[houses], houses <= 2 ? 0 : 1);
        }
        DUE.says("If they can meet her, whatever she does: the fewest turns of theirs, she making it most, they least (0: at once); NONE.");
        chased("house 0;house 0;house 0;way 0 1;way 1 2;way 2 0;", 1, 1);
        chased("house 0;house 0;house 0;house 0;way 0 1;way 1 2;way 2 3;way 3 0;", NONE, 1);
        chased("house 0;house 0;house 0;house 0;way 0 1;way 1 2;way 2 3;way 3 0;way 0 2;", 1, 1);
        chased(SIX + "way 0 1;way 1 2;way 2 3;way 3 4;way 4 5;way 5 0;", NONE, 1);
        chased(SIX + "way 5 0;way 5 1;way 5 2;way 5 3;way 5 4;", 1, 1);
        // a row of five and a house alone: one stays there, the other needs two turns
        chased(SIX + "way 0 1;way 1 2;way 2 3;way 3 4;", NONE, 2);
        chased(SIX + "way 0 1;way 1 2;way 2 3;", NONE, NONE);
        chased(SIX + "way 0 1;way 1 2;way 3 4;way 4 5;", NONE, 1);
        chased(SIX + "way 0 1;way 1 2;way 2 3;way 4 5;", NONE, 2);
        // with nine ways: each of three to each of three, and a ring of three on each side
        chased(SIX + "way 0 3;way 0 4;way 0 5;way 1 3;way 1 4;way 1 5;way 2 3;way 2 4;way 2 5;", NONE, 1);
        chased(SIX + "way 0 1;way 1 2;way 2 0;way 3 4;way 4 5;way 5 3;way 0 3;way 1 4;way 2 5;", NONE, 1);
        chased(SIX + "way 0 1;way 0 2;way 0 3;way 0 4;way 0 5;way 1 2;way 2 3;way 3 4;way 4 5;", 1, 1);
        chased(SIX, NONE, NONE);
    }

    private static void chaseCalls() {
        DUE.says("CHASE (k 1, 2): the turns; NONE. OUTSIDE, NOT: no HOUSES.");
        SlipperFits x = Due.told("house 0;house 0;way 0 1;");
        DUE.bounds("chase", 1, 2, OUTSIDE, k -> x.chase(k));
        SlipperFits none = new SlipperFits();
        DUE.is("chase(1) without houses", none.chase(1), NOT);
        DUE.is("chase(2) without houses", none.chase(2), NOT);
        DUE.is("chase(0) without houses", none.chase(0), OUTSIDE);
        DUE.is("chase(3) without houses", none.chase(3), OUTSIDE);
        DUE.is("chase(1) with a house alone", Due.told("house 0;").chase(1), 0);
        SlipperFits apart = Due.told("house 0;house 0;house 0;");
        DUE.is("chase(1)", apart.chase(1), NONE);
        DUE.is("chase(2)", apart.chase(2), NONE);
    }

    private static void fewest() {
        DUE.says("FEWEST: k of 1, 2 by which they can; NONE.");
        DUE.is("one", Due.told("house 0;").fewest(), 1);
        DUE.is("one, in two turns", Due.told("house 0;house 0;house 0;house 0;way 0 1;way 1 2;way 2 3;").fewest(), 1);
        DUE.is("two", Due.told("house 0;house 0;").fewest(), 2);
        DUE.is("none", Due.told("house 0;house 0;house 0;").fewest(), NONE);
        DUE.says("FEWEST; NONE (without HOUSES, too).");
        DUE.is("fewest() of a new object", new SlipperFits().fewest(), NONE);
        DUE.is("fewest() of an empty list", Due.told("noon 1;").fewest(), NONE);
    }

    // ---- RULE and PASSES

    private static void rule(String list, int g, int a, int b) {
        SlipperFits x = Due.told(list);
        DUE.is("rule(" + g + ", 0) of " + list, x.rule(g, 0), a);
        DUE.is("rule(" + g + ", 1) of " + list, x.rule(g, 1), b);
    }

    private static void rules() {
        DUE.says("the first two hours of the day a < b at both of which it FITS her without PADDING,");
        rule("house 0;girl 0 30 0 0;", 0, 0, 1);
        rule("house 0;girl 0 31 0 0;", 0, NONE, NONE);
        rule("house 0;girl 0 28 0 0;", 0, NONE, NONE);
        rule("house 0;girl 0 29 2 0;", 0, 0, 1);
        rule("house 0;girl 0 28 2 0;", 0, 12, 13);
        rule("noon 22;house 0;girl 0 28 2 0;", 0, 22, 23);
        rule("noon 23;house 0;girl 0 28 2 0;", 0, NONE, NONE);
        rule("noon 0;house 0;girl 0 28 2 0;", 0, 0, 1);
        rule("noon 2;house 0;girl 0 30 2 0;", 0, 0, 1);
        rule("noon 1;house 0;girl 0 30 2 0;", 0, NONE, NONE);
        rule("noon 1;house 0;girl 0 28 2 0;", 0, 1, 2);
        DUE.says("RULE for a GIRL (GLASS not worn, no water):");
        SlipperFits x = Due.told("shoe 30 0 1;house 0;house 1;girl 0 30 0 0;girl 0 22 0 0;");
        DUE.is("rule(0, 1)", x.rule(0, 1), 1);
        x.soak(0);
        x.pad(0, 3);
        x.attempt();
        DUE.is("rule(0, 1): as before", x.rule(0, 1), 1);
        x.move(0, 1);
        DUE.is("rule(0, 1): with other stairs", x.rule(0, 1), NONE);
    }

    private static void rulesPadding() {
        DUE.says("and by which no other GIRL PASSES with any PADDING of 0 to 5 (like at both); NONE.");
        String she = "shoe 30 0 0;house 0;house 1;girl 0 30 0 0;girl ";
        rule(she + "0 31 0 0;", 0, 0, 1);
        rule(she + "0 30 0 0;", 0, NONE, NONE);
        rule(she + "0 29 0 0;", 0, NONE, NONE);
        rule(she + "0 25 0 0;", 0, NONE, NONE);
        rule(she + "0 24 0 0;", 0, 0, 1);
        rule(she + "1 24 0 0;", 0, NONE, NONE);
        rule(she + "1 23 0 0;", 0, 0, 1);
        // like at both: with 5 at the one, with 0 at the other
        rule(she + "0 25 5 0;", 0, 0, 12);
        rule(she + "0 25 1 0;", 0, 0, 12);
        rule(she + "0 31 1 0;", 0, 0, 1);
        rule(she + "0 24 1 0;", 0, 0, 1);
        rule(she + "0 24 9 0;girl 0 26 1 0;", 0, 0, 12);
        rule(she + "0 24 9 0;girl 0 26 0 0;", 0, NONE, NONE);
        rule("shoe 30 0 0;house 0;girl 0 26 0 0;girl 0 30 0 0;", 1, NONE, NONE);
        rule("shoe 30 0 0;house 0;girl 0 26 1 0;girl 0 30 0 0;", 1, 0, 12);
        // a shoe so short that padding alone would fit it: who is not there does not pass
        rule("shoe 5 0 0;house 0;girl 0 5 0 0;", 0, 0, 1);
        rule("shoe 1 0 0;house 0;girl 0 1 0 0;girl 0 2 0 0;", 0, 0, 1);
        SlipperFits x = Due.told("shoe 30 0 0;house 0;girl 0 30 0 0;girl 0 24 0 0;");
        x.pad(1, 5);
        DUE.is("rule(0, 1): what the other is padded by now does not count", x.rule(0, 1), 1);
        Due.tell(x, "house 0;girl 0 30 0 0;girl 0 30 0 0;");
        DUE.is("rule(0, 1): the other passes", x.rule(0, 1), NONE);
        Due.tell(x, "house 0;girl 0 30 0 0;");
        DUE.is("rule(0, 1): the other is of an earlier list", x.rule(0, 1), 1);
    }

    private static void ruleCalls() {
        DUE.says("RULE: what = 0 a, 1 b; NONE. UNKNOWN, OUTSIDE.");
        SlipperFits x = Due.told("house 0;girl 0 28 1 0;girl 0 50 0 0;");
        DUE.is("rule(0, 0)", x.rule(0, 0), 12);
        DUE.is("rule(0, 1)", x.rule(0, 1), 13);
        DUE.is("rule(1, 0)", x.rule(1, 0), NONE);
        DUE.is("rule(1, 1)", x.rule(1, 1), NONE);
        DUE.bounds("rule(0, n)", 0, 1, OUTSIDE, what -> x.rule(0, what));
        DUE.is("rule(1, 2): there is none, but 2 is outside", x.rule(1, 2), OUTSIDE);
        DUE.bounds("rule(n, 0)", 0, 1, UNKNOWN, g -> x.rule(g, 0));
        DUE.is("rule(2, 2)", x.rule(2, 2), UNKNOWN);
    }

    private static void passes() {
        DUE.says("PASSES: the least PADDING by which it FITS at both; NONE.");
        int[] feet = {31, 30, 29, 26, 25, 24};
        int[] due = {NONE, 0, 1, 4, 5, NONE};
        for (int i = 0; i < feet.length; i++) {
            SlipperFits x = Due.told("shoe 30 0 0;house 0;girl 0 " + feet[i] + " 0 0;");
            DUE.is("passes(0, 0, 23) of " + feet[i], x.passes(0, 0, 23), due[i]);
        }
        int[] spared = {NONE, 0, 0, 0, 1, 5, NONE};
        int[] spare = {31, 30, 29, 28, 27, 23, 22};
        for (int i = 0; i < spare.length; i++) {
            SlipperFits x = Due.told("shoe 30 2 0;house 0;girl 0 " + spare[i] + " 0 0;");
            DUE.is("passes(0, 0, 23) of " + spare[i] + ", 2 to spare", x.passes(0, 0, 23), spared[i]);
        }
        SlipperFits x = Due.told("shoe 30 2 1;house 0;girl 0 27 2 0;girl 0 27 3 0;girl 0 23 2 0;girl 0 22 2 0;");
        DUE.is("27 and 29", x.passes(0, 11, 12), 1);
        DUE.is("29 and 27", x.passes(0, 12, 11), 1);
        DUE.is("29 and 29", x.passes(0, 12, 12), 0);
        DUE.is("27 and 30", x.passes(1, 0, 23), NONE);
        DUE.is("23 and 25", x.passes(2, 0, 23), 5);
        DUE.is("22 and 24", x.passes(3, 0, 23), NONE);
        DUE.is("24 twice", x.passes(3, 12, 23), 4);
        x.pad(0, 5);
        x.soak(0);
        x.attempt();
        DUE.is("what she is padded by, water, wear do not count", x.passes(0, 11, 12), 1);
    }

    private static void passesCalls() {
        DUE.says("PASSES (hours of the day, unlike or like); NONE. UNKNOWN, OUTSIDE.");
        SlipperFits x = Due.told("house 0;girl 0 30 0 0;girl 0 30 0 0;");
        DUE.bounds("passes(0, n, 0)", 0, 23, OUTSIDE, a -> x.passes(0, a, 0));
        DUE.bounds("passes(0, 0, n)", 0, 23, OUTSIDE, b -> x.passes(0, 0, b));
        DUE.bounds("passes(n, 0, 0)", 0, 1, UNKNOWN, g -> x.passes(g, 0, 0));
        DUE.is("passes(0, 5, 5)", x.passes(0, 5, 5), 0);
        DUE.is("passes(0, 23, 23)", x.passes(0, 23, 23), 0);
        DUE.is("passes(2, 24, -1)", x.passes(2, 24, -1), UNKNOWN);
    }

    // ---- APART and WORN

    private static void apart() {
        DUE.says("APART of two: hours of the day (a SET, bits 0 .. 23) at which it FITS the one and not the other (as now, SOAKED ones not).");
        SlipperFits x = Due.told("shoe 30 0 4;noon 23;house 0;girl 0 30 0 0;girl 0 30 1 0;girl 0 29 1 0;girl 0 50 0 0;girl 0 30 0 0;");
        DUE.is("apart(0, 1): at 23 alone", x.apart(0, 1), 1 << 23);
        DUE.is("apart(0, 2): at all but 23", x.apart(0, 2), ALL_DAY >> 1);
        DUE.is("apart(1, 2): at all", x.apart(1, 2), ALL_DAY);
        DUE.is("apart(2, 1): either way round", x.apart(2, 1), ALL_DAY);
        DUE.is("apart(0, 3): at all", x.apart(0, 3), ALL_DAY);
        DUE.is("apart(0, 4): at none", x.apart(0, 4), 0);
        x.soak(0);
        DUE.is("apart(0, 4): soaked, and at none", x.apart(0, 4), 0);
        x.pad(4, 1);
        DUE.is("apart(0, 4): padded as now", x.apart(0, 4), ALL_DAY);
        x.move(3, 0);
        x.attempt();
        DUE.is("told(12)", x.told(12), 31);
        DUE.is("apart(0, 4): worn as now", x.apart(0, 4), ALL_DAY);
        DUE.is("apart(0, 3): it fits neither of them now", x.apart(0, 3), 0);
        SlipperFits early = Due.told("noon 1;house 0;girl 0 30 0 0;girl 0 28 2 0;");
        DUE.is("apart(0, 1): at 0 alone", early.apart(0, 1), 1);
    }

    private static void apartCalls() {
        DUE.says("APART. UNKNOWN.");
        DUE.says("UNKNOWN (a HOUSE, GIRL, IMAGE that there is not; one twice)");
        SlipperFits x = Due.told("house 0;girl 0 30 0 0;girl 0 30 0 0;girl 0 30 0 0;");
        for (int g = 0; g < 3; g++) {
            DUE.is("apart(" + g + ", " + g + "): one twice", x.apart(g, g), UNKNOWN);
            DUE.is("apart(" + g + ", 3)", x.apart(g, 3), UNKNOWN);
            DUE.is("apart(" + g + ", -1)", x.apart(g, -1), UNKNOWN);
            DUE.is("apart(3, " + g + ")", x.apart(3, g), UNKNOWN);
            DUE.is("apart(-1, " + g + ")", x.apart(-1, g), UNKNOWN);
        }
        DUE.is("apart(0, 2)", x.apart(0, 2), 0);
        DUE.is("apart(MIN, MAX)", x.apart(Integer.MIN_VALUE, Integer.MAX_VALUE), UNKNOWN);
        DUE.is("apart(0, 1) with one girl", Due.told("house 0;girl 0 30 0 0;").apart(0, 1), UNKNOWN);
    }

    private static void worn() {
        DUE.says("WORN for two at an hour of the day: the fewest TRIES in all (0 .. 9999) at which it FITS both (SOAKED not); NONE.");
        SlipperFits x = Due.told("shoe 30 2 7;house 0;girl 0 30 0 0;girl 0 28 0 0;girl 0 27 0 0;girl 0 31 0 0;girl 0 30 3 0;girl 0 33 0 0;");
        DUE.is("30, 28: at once", x.worn(0, 1, 0), 0);
        DUE.is("30, 27: 3 is more than to spare", x.worn(0, 2, 0), NONE);
        DUE.is("28, 27: too short at once, and the longer the worse", x.worn(1, 2, 0), NONE);
        DUE.is("31, 30: one longer", x.worn(3, 0, 0), 7);
        DUE.is("30, 31: one longer", x.worn(0, 3, 0), 7);
        DUE.is("31, 28: 3 apart", x.worn(3, 1, 0), NONE);
        DUE.is("30, 30 ahead of noon", x.worn(0, 4, 11), 0);
        DUE.is("30, 33 from noon on", x.worn(0, 4, 12), NONE);
        DUE.is("31, 33 from noon on: three longer", x.worn(3, 4, 12), 21);
        DUE.is("33, 33 from noon on: three longer", x.worn(5, 4, 23), 21);
        x.soak(0);
        x.soak(3);
        DUE.is("31, 30: soaked not", x.worn(3, 0, 0), 7);
        for (int i = 0; i < 9; i++) {
            x.attempt();
        }
        DUE.holds("told(12)", x.told(12) > 32);
        DUE.is("31, 30: in all, not from now on", x.worn(3, 0, 0), 7);
        x.pad(0, 1);
        DUE.is("31, 31: padded as now", x.worn(3, 0, 0), 7);
        x.pad(0, 2);
        DUE.is("31, 32: padded as now", x.worn(3, 0, 0), 14);
    }

    private static void wornMost() {
        DUE.says("(0 .. 9999)");
        SlipperFits x = Due.told("shoe 1 9 99;house 9;girl 0 93 0 0;girl 0 93 0 0;girl 0 94 0 0;");
        DUE.is("101 longer by 99", x.worn(0, 1, 0), 9999);
        DUE.is("102 longer by 99", x.worn(0, 2, 0), NONE);
        DUE.is("102 longer by 98", Due.told("shoe 1 9 98;house 9;girl 0 94 0 0;girl 0 94 0 0;").worn(0, 1, 0), 9996);
        DUE.is("103 longer by 98", Due.told("shoe 1 9 98;house 9;girl 0 95 0 0;girl 0 94 0 0;").worn(0, 1, 0), NONE);
        DUE.is("100 longer by 99", Due.told("shoe 1 9 99;house 9;girl 0 92 0 0;girl 0 92 0 0;").worn(0, 1, 0), 9900);
        // of all that there can be, 10005 is the least above 9999
        SlipperFits above = Due.told("shoe 1 9 87;noon 1;house 9;girl 0 98 9 0;girl 0 98 9 0;girl 0 97 9 0;girl 0 97 9 0;");
        DUE.is("115 longer by 87", above.worn(0, 1, 1), NONE);
        DUE.is("114 longer by 87", above.worn(2, 3, 1), 9918);
        SlipperFits never = Due.told("shoe 30 1 0;house 0;girl 0 30 0 0;girl 0 30 0 0;girl 0 31 0 0;");
        DUE.is("never longer, and it fits", never.worn(0, 1, 0), 0);
        DUE.is("never longer, and it does not", never.worn(0, 2, 0), NONE);
        SlipperFits each = Due.told("shoe 1 0 1;noon 0;house 9;girl 0 99 9 0;girl 0 99 9 0;");
        each.pad(0, 5);
        each.pad(1, 5);
        DUE.is("121 longer by 1", each.worn(0, 1, 0), 121);
    }

    private static void wornCalls() {
        DUE.says("WORN; NONE. UNKNOWN, OUTSIDE.");
        SlipperFits x = Due.told("house 0;girl 0 30 0 0;girl 0 30 0 0;");
        DUE.bounds("worn(0, 1, n)", 0, 23, OUTSIDE, hour -> x.worn(0, 1, hour));
        for (int g = 0; g < 2; g++) {
            DUE.is("worn(" + g + ", " + g + ", 0): one twice", x.worn(g, g, 0), UNKNOWN);
            DUE.is("worn(" + g + ", " + g + ", 24)", x.worn(g, g, 24), UNKNOWN);
            DUE.is("worn(" + g + ", 2, 0)", x.worn(g, 2, 0), UNKNOWN);
            DUE.is("worn(2, " + g + ", 24)", x.worn(2, g, 24), UNKNOWN);
            DUE.is("worn(-1, " + g + ", 0)", x.worn(-1, g, 0), UNKNOWN);
            DUE.is("worn(" + g + ", -1, -1)", x.worn(g, -1, -1), UNKNOWN);
        }
    }

    // ---- SISTERS

    private static void sisters(SlipperFits x, int rounds, int wins, int... hours) {
        DUE.is("sisters(0, 0)", x.sisters(0, 0), rounds);
        DUE.is("sisters(1, 0)", x.sisters(1, 0), wins);
        for (int g = 0; g < hours.length; g++) {
            DUE.is("sisters(2, " + g + ")", x.sisters(2, g), hours[g]);
        }
    }

    private static void sistersAtFirst() {
        DUE.says("SISTERS: each GIRL chooses an hour of the day at which she is tried (0 at first);");
        sisters(Due.told("house 0;girl 0 31 0 0;girl 0 28 0 0;"), 0, NONE, 0, 0);
        sisters(new SlipperFits(), 0, NONE);
        DUE.says("she of whom it FITS at her hour (as now, SOAKED not) wins,");
        SlipperFits x = Due.told("shoe 30 1 2;house 0;girl 0 31 0 0;girl 0 30 0 0;");
        sisters(x, 0, 1, 0, 0);
        x.soak(1);
        sisters(x, 0, 1, 0, 0);
        x.pad(1, 1);
        sisters(x, 0, NONE, 0, 0);
        x.attempt();
        sisters(x, 0, 0, 0, 0);
        DUE.says("if nobody else whom it FITS has a lesser hour, or as great a one and a lesser number.");
        sisters(Due.told("house 0;girl 0 30 0 0;girl 0 30 0 0;girl 0 30 0 0;"), 0, 0, 0, 0, 0);
        sisters(Due.told("house 0;girl 0 31 0 0;girl 0 30 0 0;girl 0 30 0 0;"), 0, 1, 0, 0, 0);
        sisters(Due.told("house 0;girl 0 28 2 0;girl 0 28 2 0;girl 0 30 9 0;"), 0, 2, 0, 0, 0);
    }

    private static void sistersChoose() {
        DUE.says("Rounds: GIRLS in order: who does not win takes the least hour by which she would, if there is one;");
        sisters(Due.told("house 0;girl 0 28 2 0;"), 1, 0, 12);
        sisters(Due.told("house 0;girl 0 28 2 0;girl 0 28 2 0;girl 0 28 1 0;"), 1, 0, 12, 0, 0);
        sisters(Due.told("house 0;girl 0 50 2 0;girl 0 28 2 0;girl 0 28 1 0;"), 1, 1, 0, 12, 0);
        sisters(Due.told("noon 23;house 0;girl 0 50 2 0;girl 0 50 2 0;girl 0 28 1 0;"), 1, 2, 0, 0, 23);
        sisters(Due.told("noon 1;house 0;girl 0 28 2 0;girl 0 28 2 0;"), 1, 0, 1, 0);
        sisters(Due.told("noon 0;house 0;girl 0 28 2 0;girl 0 28 2 0;"), 0, 0, 0, 0);
        DUE.says("till a round changes nothing, 30 at most: how many rounds changed something; the hour of each then; who wins.");
        // who takes an hour takes noon, and nobody can undercut that: one round changes at most
        sisters(Due.told("house 0;girl 0 50 0 0;girl 0 28 2 0;girl 0 50 0 0;girl 0 28 2 0;girl 0 28 1 0;girl 0 28 1 0;"), 1, 1, 0, 12, 0, 0, 0, 0);
    }

    private static void sistersCalls() {
        DUE.says("SISTERS: what = 0 the rounds, 1 who wins (NONE), 2 the hour of a GIRL (g is not looked at otherwise)."
            + " UNKNOWN (g, for 2 alone), OUTSIDE.");
        SlipperFits x = Due.told("house 0;girl 0 50 0 0;girl 0 28 2 0;");
        DUE.bounds("sisters(n, 0)", 0, 2, OUTSIDE, what -> x.sisters(what, 0));
        DUE.bounds("sisters(2, n)", 0, 1, UNKNOWN, g -> x.sisters(2, g));
        for (int g : new int[] {Integer.MIN_VALUE, -1, 0, 1, 2, 6, Integer.MAX_VALUE}) {
            DUE.is("sisters(0, " + g + ")", x.sisters(0, g), 1);
            DUE.is("sisters(1, " + g + ")", x.sisters(1, g), 1);
            DUE.is("sisters(3, " + g + ")", x.sisters(3, g), OUTSIDE);
            DUE.is("sisters(-1, " + g + ")", x.sisters(-1, g), OUTSIDE);
        }
        SlipperFits none = new SlipperFits();
        DUE.is("sisters(0, 0) without girls", none.sisters(0, 0), 0);
        DUE.is("sisters(1, 0) without girls", none.sisters(1, 0), NONE);
        DUE.is("sisters(2, 0) without girls", none.sisters(2, 0), UNKNOWN);
    }

    // ---- ODDS

    private static void odd(SlipperFits x, int hour, int above, int below) {
        DUE.is("odds(0, " + hour + ", 0)", x.odds(0, hour, 0), above);
        DUE.is("odds(0, " + hour + ", 1)", x.odds(0, hour, 1), below);
    }

    private static void odds() {
        DUE.says("a part in lowest terms.");
        int[] above = {0, 1, 1, 3, 1, 5, 3, 7, 1};
        int[] below = {1, 8, 4, 8, 2, 8, 4, 8, 1};
        for (int q = 0; q <= 8; q++) {
            // it fits when she swells; when she does not; either way; neither way
            odd(Due.told("house 0;girl 0 28 2 " + q + ";"), 12, above[q], below[q]);
            odd(Due.told("house 0;girl 0 30 2 " + q + ";"), 12, above[8 - q], below[8 - q]);
            odd(Due.told("house 0;girl 0 29 1 " + q + ";"), 12, 1, 1);
            odd(Due.told("house 0;girl 0 31 1 " + q + ";"), 12, 0, 1);
            odd(Due.told("house 0;girl 0 30 0 " + q + ";"), 23, 1, 1);
        }
    }

    private static void oddsAheadOfNoon() {
        DUE.says("ODDS that it FITS a GIRL at an hour of the day (as now, SOAKED not): she swells from noon on by her chance alone (not at all ahead of it):");
        SlipperFits x = Due.told("shoe 30 0 1;noon 7;house 0;house 1;girl 0 29 1 2;");
        odd(x, 0, 0, 1);
        odd(x, 6, 0, 1);
        odd(x, 7, 1, 4);
        odd(x, 23, 1, 4);
        x.pad(0, 1);
        odd(x, 6, 1, 1);
        odd(x, 7, 3, 4);
        x.soak(0);
        odd(x, 7, 3, 4);
        x.move(0, 1);
        odd(x, 6, 0, 1);
        odd(x, 7, 0, 1);
        x.move(0, 0);
        x.attempt();
        DUE.is("told(12)", x.told(12), 31);
        odd(x, 6, 0, 1);
        odd(x, 7, 1, 4);
        SlipperFits always = Due.told("noon 0;house 0;girl 0 30 2 4;");
        odd(always, 0, 1, 2);
        SlipperFits late = Due.told("noon 23;house 0;girl 0 30 2 4;");
        odd(late, 22, 1, 1);
        odd(late, 23, 1, 2);
    }

    private static void oddsCalls() {
        DUE.says("ODDS: part = 0 above, 1 below. UNKNOWN, OUTSIDE.");
        SlipperFits x = Due.told("house 0;girl 0 30 0 0;girl 0 30 0 0;");
        DUE.bounds("odds(0, n, 0)", 0, 23, OUTSIDE, hour -> x.odds(0, hour, 0));
        DUE.bounds("odds(0, 0, n)", 0, 1, OUTSIDE, part -> x.odds(0, 0, part));
        DUE.bounds("odds(n, 0, 0)", 0, 1, UNKNOWN, g -> x.odds(g, 0, 0));
        DUE.is("odds(2, 24, 2)", x.odds(2, 24, 2), UNKNOWN);
        DUE.is("odds(0, 24, 2)", x.odds(0, 24, 2), OUTSIDE);
    }
}
