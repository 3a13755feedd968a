/** What was SEEN, the STEPS, THE BOOK, THE SEED, the IMAGES: promises 25 to 35, sentence by sentence, at their bounds. */
public final class SeenEdgesTest {
    private static final Due DUE = new Due("SeenEdgesTest");
    private static final int NONE = SlipperFits.NONE, UNKNOWN = SlipperFits.UNKNOWN, OUTSIDE = SlipperFits.OUTSIDE,
        NOT = SlipperFits.NOT, FULL = SlipperFits.FULL;

    public static void main(String[] args) {
        seen();
        could();
        couldNot();
        next();
        nextNone();
        steps();
        walkers();
        walkersOverAndOver();
        write();
        wrong();
        wrongAsNow();
        tear();
        seed();
        keep();
        goBack();
        imagesKeep();
        imagesKeepNoMore();
        constants();
        DUE.end();
    }

    // ---- SEEN

    private static void seen() {
        DUE.says("SEEN: how many. OUTSIDE, FULL (20).");
        SlipperFits x = new SlipperFits();
        DUE.bounds("see", 0, 23, OUTSIDE, hour -> x.see(hour, true));
        DUE.is("told(15): four, and four refusals", x.told(15), 4);
        for (int i = 5; i <= 20; i++) {
            DUE.is("see " + i, x.see(i, i % 2 == 0), i);
        }
        DUE.is("see 21", x.see(0, true), FULL);
        DUE.is("see 21", x.see(23, false), FULL);
        DUE.is("see 21, outside", x.see(24, true), OUTSIDE);
        DUE.is("see 21, outside", x.see(-1, true), OUTSIDE);
        DUE.is("told(15)", x.told(15), 20);
        x.tear();
        DUE.is("see when there is room again", x.see(0, true), 1);
        DUE.says("SEEN (20 at most): at an hour of the day GLASS of S (not worn) FITTED her, or did not.");
        SlipperFits last = Due.told("noon 8;house 0;girl 0 30 0 0;girl 0 28 2 0;");
        for (int i = 1; i <= 19; i++) {
            last.see(8, true);
        }
        DUE.is("could() of nineteen", last.could(), 3);
        DUE.is("see 20", last.see(7, true), 20);
        DUE.is("could(): the twentieth counts", last.could(), 1);
        DUE.is("see 21", last.see(7, false), FULL);
        DUE.is("could(): the twenty-first does not", last.could(), 1);
    }

    private static SlipperFits four() {
        // 0 fits always, 1 ahead of noon, 2 from noon on, 3 never
        return Due.told("shoe 30 1 1;noon 8;house 0;house 2;girl 0 30 0 0;girl 0 29 2 0;girl 1 26 2 0;girl 1 30 0 0;");
    }

    private static void could() {
        DUE.says("COULD: GIRLS (a SET) for whom all is so");
        SlipperFits x = four();
        DUE.is("could() with nothing seen: all", x.could(), 15);
        x.see(7, true);
        DUE.is("it fitted at 7", x.could(), 3);
        x.see(8, true);
        DUE.is("and at 8", x.could(), 1);
        x.see(8, false);
        DUE.is("and did not at 8: nobody", x.could(), 0);
        x.tear();
        x.see(7, false);
        DUE.is("it did not fit at 7", x.could(), 12);
        x.see(8, false);
        DUE.is("and did not at 8", x.could(), 8);
        x.tear();
        x.see(23, true);
        DUE.is("it fitted at 23", x.could(), 5);
        x.see(0, false);
        DUE.is("and did not at 0", x.could(), 4);
        DUE.says("COULD.");
        DUE.is("could() without girls", new SlipperFits().could(), 0);
        SlipperFits all = Due.told("house 0;girl 0 30 0 0;girl 0 30 0 0;girl 0 30 0 0;girl 0 30 0 0;girl 0 30 0 0;girl 0 30 0 0;");
        DUE.is("could() of six", all.could(), 63);
        all.see(0, true);
        DUE.is("could() of six", all.could(), 63);
        all.attempt();
        DUE.is("could(): the married, too", all.could(), 63);
        all.see(0, false);
        DUE.is("could() of six", all.could(), 0);
    }

    private static void couldNot() {
        DUE.says("(FOOT without PADDING, water, with stairs).");
        SlipperFits x = four();
        x.see(7, true);
        DUE.is("could()", x.could(), 3);
        for (int g = 0; g < 4; g++) {
            x.pad(g, 5);
        }
        DUE.is("padded", x.could(), 3);
        for (int g = 0; g < 4; g++) {
            x.soak(g);
        }
        DUE.is("soaked", x.could(), 3);
        x.attempt();
        x.attempt();
        DUE.is("told(12)", x.told(12), 33);
        DUE.is("worn", x.could(), 3);
        x.move(3, 0);
        DUE.is("with no stairs", x.could(), 11);
        x.move(0, 1);
        DUE.is("with stairs", x.could(), 10);
    }

    private static void next() {
        DUE.says("NEXT: the hour of the day that parts them most evenly (the greater part is least);");
        // ahead of noon one of five fits, from noon on three of five
        SlipperFits later = Due.told("noon 8;house 0;girl 0 30 0 0;girl 0 28 2 0;girl 0 28 2 0;girl 0 40 0 0;girl 0 40 0 0;");
        DUE.is("next(): 4 and 1, or 3 and 2", later.next(), 8);
        // ahead of noon three of five fit, from noon on one
        SlipperFits sooner = Due.told("noon 8;house 0;girl 0 30 0 0;girl 0 30 2 0;girl 0 30 2 0;girl 0 40 0 0;girl 0 40 0 0;");
        DUE.is("next(): 3 and 2, or 4 and 1", sooner.next(), 0);
        // from noon on alone, at the last hour of the day
        SlipperFits last = Due.told("noon 23;house 0;girl 0 30 2 0;girl 0 30 0 0;");
        DUE.is("next(): at 23 alone", last.next(), 23);
        SlipperFits first = Due.told("noon 1;house 0;girl 0 28 2 0;girl 0 30 0 0;");
        DUE.is("next(): at 0 alone", first.next(), 0);
        DUE.says("of like ones the least;");
        DUE.is("next(): 3 and 1 at each", four().next(), 0);
        // one of five fits ahead of noon, four from noon on
        SlipperFits like = Due.told("noon 8;house 0;girl 0 30 0 0;girl 0 28 2 0;girl 0 28 2 0;girl 0 28 2 0;girl 0 40 0 0;");
        DUE.is("next(): 1 and 4, or 4 and 1", like.next(), 0);
    }

    private static void nextNone() {
        DUE.says("NONE: none parts them.");
        DUE.says("NEXT; NONE.");
        DUE.is("next() without girls", new SlipperFits().next(), NONE);
        DUE.is("next() of one", Due.told("house 0;girl 0 30 5 0;").next(), NONE);
        DUE.is("next() of two alike", Due.told("house 0;girl 0 30 5 0;girl 0 29 2 0;").next(), NONE);
        DUE.is("next() of two whom it never fits", Due.told("house 0;girl 0 40 5 0;girl 0 9 2 0;").next(), NONE);
        SlipperFits x = four();
        x.see(7, true);
        DUE.is("next() of 0 and 1", x.next(), 8);
        x.see(8, true);
        DUE.is("next() of 0 alone", x.next(), NONE);
        x.see(8, false);
        DUE.is("next() of nobody", x.next(), NONE);
    }

    // ---- STEPS

    private static void steps() {
        DUE.says("A STEP more (0 .. 2: a, b, c): how many. OUTSIDE, FULL (12).");
        SlipperFits x = new SlipperFits();
        DUE.bounds("step", 0, 2, OUTSIDE, l -> x.step(l));
        DUE.is("told(16): four, and four refusals", x.told(16), 4);
        for (int i = 5; i <= 12; i++) {
            DUE.is("step " + i, x.step(2), i);
        }
        DUE.is("step 13", x.step(0), FULL);
        DUE.is("step 13", x.step(2), FULL);
        DUE.is("step 13, outside", x.step(3), OUTSIDE);
        DUE.is("step 13, outside", x.step(-1), OUTSIDE);
        DUE.is("told(16)", x.told(16), 12);
        x.tear();
        DUE.is("step when there is room again", x.step(0), 1);
    }

    private static void walked(SlipperFits x, String steps, int who) {
        x.tear();
        for (int i = 0; i < steps.length(); i++) {
            x.step(steps.charAt(i) - 'a');
        }
        DUE.is("walker() of " + steps, x.walker(), who);
    }

    private static void walkers() {
        DUE.says("STEPS (12 at most) a, b, c: WALKER: GIRLS (a SET) whose ROW, over and over, begun anywhere, has them so.");
        SlipperFits x = Due.told("house 0;girl 0 1 0 0;girl 0 1 0 0;girl 0 1 0 0;girl 0 1 0 0;girl 0 1 0 0;girl 0 1 0 0;"
            + "gait 1 b;gait 2 c;gait 3 abc;gait 4 aabbcc;gait 5 ac;");
        walked(x, "a", 1 + 8 + 16 + 32);
        walked(x, "b", 2 + 8 + 16);
        walked(x, "c", 4 + 8 + 16 + 32);
        walked(x, "aa", 1 + 16);
        walked(x, "ab", 8 + 16);
        walked(x, "ca", 8 + 16 + 32);
        walked(x, "ba", 0);
        walked(x, "cab", 8);
        walked(x, "cac", 32);
        walked(x, "caab", 16);
        DUE.says("WALKER (all without STEPS).");
        walked(x, "", 63);
        DUE.is("walker() without girls", new SlipperFits().walker(), 0);
        SlipperFits none = new SlipperFits();
        none.step(0);
        DUE.is("walker() without girls", none.walker(), 0);
    }

    private static void walkersOverAndOver() {
        DUE.says("over and over, begun anywhere");
        SlipperFits x = Due.told("house 0;girl 0 1 0 0;girl 0 1 0 0;girl 0 1 0 0;gait 1 aabcab;gait 2 ab;");
        String endless = "aabcab".repeat(3);
        for (int begin = 0; begin < 6; begin++) {
            walked(x, endless.substring(begin, begin + 12), 2);
            String other = endless.charAt(begin + 11) == 'b' ? "a" : "b";
            walked(x, endless.substring(begin, begin + 11) + other, 0);
        }
        walked(x, "aaaaaaaaaaaa", 1);
        walked(x, "aaaaaaaaaaab", 0);
        walked(x, "abababababab", 4);
        walked(x, "babababababa", 4);
        walked(x, "bababababaab", 0);
        DUE.is("step 13", x.step(0), FULL);
    }

    // ---- THE BOOK

    private static void write() {
        DUE.says("A line behind THE BOOK: how many. UNKNOWN, OUTSIDE (hour 0 .. 99999), FULL (30).");
        SlipperFits x = Due.told("house 0;girl 0 30 0 0;girl 0 30 0 0;");
        DUE.bounds("write(n, 0, true)", 0, 99999, OUTSIDE, hour -> x.write(hour, 0, true));
        DUE.bounds("write(0, n, true)", 0, 1, UNKNOWN, g -> x.write(0, g, true));
        DUE.is("told(17): eight, and eight refusals", x.told(17), 8);
        DUE.is("write(100000, 2, true)", x.write(100000, 2, true), UNKNOWN);
        for (int i = 9; i <= 30; i++) {
            DUE.is("write " + i, x.write(0, 1, true), i);
        }
        DUE.is("write 31", x.write(0, 0, true), FULL);
        DUE.is("write 31, outside", x.write(100000, 0, true), OUTSIDE);
        DUE.is("write 31, outside", x.write(-1, 0, true), OUTSIDE);
        DUE.is("write 31, unknown", x.write(-1, 2, true), UNKNOWN);
        DUE.is("write 31, unknown", x.write(0, -1, true), UNKNOWN);
        DUE.is("told(17)", x.told(17), 30);
        x.tear();
        DUE.is("write when there is room again", x.write(0, 0, true), 1);
        DUE.is("write without girls", new SlipperFits().write(0, 0, true), UNKNOWN);
    }

    private static void wrong() {
        DUE.says("THE BOOK (30 at most) tells fits: (hour, GIRL, whether it FITTED): WRONG: the first that is otherwise");
        SlipperFits x = Due.told("house 0;girl 0 30 1 0;girl 0 50 0 0;");
        DUE.is("judge() of an empty book", x.judge(), NONE);
        for (int i = 0; i < 29; i++) {
            x.write(i % 12, 0, true);
        }
        DUE.is("judge(): all is so", x.judge(), NONE);
        DUE.is("write 30", x.write(0, 1, true), 30);
        DUE.is("judge(): the last", x.judge(), 29);
        DUE.is("write 31", x.write(0, 0, true), FULL);
        DUE.is("judge(): the last", x.judge(), 29);
        x.tear();
        x.write(11, 0, false);
        DUE.is("judge(): the one", x.judge(), 0);
        x.write(12, 0, true);
        DUE.is("judge(): the first of two", x.judge(), 0);
        x.tear();
        x.write(11, 0, true);
        x.write(12, 0, true);
        x.write(11, 0, false);
        DUE.is("judge(): the second", x.judge(), 1);
        DUE.says("WRONG; NONE.");
        x.tear();
        // the hours of the day by 24
        int[] hours = {0, 11, 12, 23, 24, 35, 36, 47, 48, 99983, 99984, 99995, 99996, 99999};
        for (int i = 0; i < hours.length; i++) {
            x.write(hours[i], 0, hours[i] % 24 < 12);
        }
        DUE.is("judge(): all is so", x.judge(), NONE);
        DUE.is("judge() of a new object", new SlipperFits().judge(), NONE);
    }

    private static void wrongAsNow() {
        DUE.says("with S as told (not worn), no water, PADDING as now; NONE.");
        SlipperFits x = Due.told("shoe 30 0 1;house 0;house 1;girl 0 30 0 0;girl 0 33 0 0;girl 0 29 0 0;");
        x.write(0, 0, true);
        x.write(0, 1, false);
        x.write(0, 2, false);
        x.attempt();
        DUE.is("worn", x.judge(), NONE);
        x.soak(0);
        x.soak(1);
        DUE.is("water", x.judge(), NONE);
        x.pad(2, 1);
        DUE.is("padding as now", x.judge(), 2);
        x.pad(0, 5);
        DUE.is("padding as now", x.judge(), 0);
        x.pad(0, 0);
        x.pad(2, 2);
        DUE.is("padding as now", x.judge(), NONE);
        x.move(2, 1);
        x.pad(2, 0);
        DUE.is("houses as now", x.judge(), 2);
    }

    private static void tear() {
        DUE.says("Nothing is SEEN, no STEPS, THE BOOK is empty: how many of all there were.");
        SlipperFits x = Due.told("house 0;girl 0 30 0 0;");
        DUE.is("tear() of nothing", x.tear(), 0);
        x.see(0, true);
        DUE.is("tear() of one seen", x.tear(), 1);
        x.step(0);
        DUE.is("tear() of one step", x.tear(), 1);
        x.write(0, 0, true);
        DUE.is("tear() of one line", x.tear(), 1);
        for (int i = 0; i < 30; i++) {
            x.see(0, false);
            x.step(1);
            x.write(0, 0, false);
        }
        DUE.is("could()", x.could(), 0);
        DUE.is("walker()", x.walker(), 0);
        DUE.is("judge()", x.judge(), 0);
        DUE.is("tear() of all: 20 and 12 and 30", x.tear(), 62);
        DUE.is("told(15)", x.told(15), 0);
        DUE.is("told(16)", x.told(16), 0);
        DUE.is("told(17)", x.told(17), 0);
        DUE.is("could()", x.could(), 1);
        DUE.is("walker()", x.walker(), 1);
        DUE.is("judge()", x.judge(), NONE);
        DUE.is("tear() again", x.tear(), 0);
        DUE.is("told(2): THE LIST stays", x.told(2), 1);
    }

    // ---- THE SEED, the IMAGES

    private static void seed() {
        DUE.says("THE SEED becomes v (0 .. 2147483647): what it was. OUTSIDE.");
        SlipperFits x = new SlipperFits();
        DUE.is("seed(7)", x.seed(7), 0);
        DUE.is("seed(-1)", x.seed(-1), OUTSIDE);
        DUE.is("seed(MIN)", x.seed(Integer.MIN_VALUE), OUTSIDE);
        DUE.is("seed(0)", x.seed(0), 7);
        DUE.is("seed(1)", x.seed(1), 0);
        DUE.is("seed(2147483646)", x.seed(2147483646), 1);
        DUE.is("seed(2147483647)", x.seed(2147483647), 2147483646);
        DUE.is("seed(0)", x.seed(0), 2147483647);
    }

    private static void keep() {
        DUE.says("IMAGE i becomes what is so: 1. UNKNOWN.");
        SlipperFits x = new SlipperFits();
        DUE.bounds("keep", 0, 1, UNKNOWN, i -> x.keep(i));
        DUE.is("keep(0)", x.keep(0), 1);
        DUE.is("keep(1)", x.keep(1), 1);
        x.pass(3);
        DUE.is("keep(0) again", x.keep(0), 1);
        x.pass(4);
        x.goBack(0);
        DUE.is("the later one", x.told(9), 3);
        x.goBack(1);
        DUE.is("the other one is its own", x.told(9), 0);
    }

    private static void goBack() {
        DUE.says("What is so becomes IMAGE i: 1. UNKNOWN, NOT: it was not kept.");
        SlipperFits x = new SlipperFits();
        DUE.is("goBack(0)", x.goBack(0), NOT);
        DUE.is("goBack(1)", x.goBack(1), NOT);
        DUE.is("goBack(2)", x.goBack(2), UNKNOWN);
        DUE.is("goBack(-1)", x.goBack(-1), UNKNOWN);
        DUE.is("goBack(MAX)", x.goBack(Integer.MAX_VALUE), UNKNOWN);
        DUE.is("goBack(MIN)", x.goBack(Integer.MIN_VALUE), UNKNOWN);
        x.pass(5);
        x.keep(1);
        x.pass(5);
        DUE.is("goBack(0): the other one was kept", x.goBack(0), NOT);
        DUE.is("told(9)", x.told(9), 10);
        DUE.is("goBack(1)", x.goBack(1), 1);
        DUE.is("told(9)", x.told(9), 5);
        x.pass(5);
        DUE.is("goBack(1) again", x.goBack(1), 1);
        DUE.is("told(9)", x.told(9), 5);
        DUE.is("goBack(33): no bit that wraps around", x.goBack(33), UNKNOWN);
        x.list();
        DUE.is("goBack(1) behind a list", x.goBack(1), NOT);
    }

    private static SlipperFits kept() {
        SlipperFits x = Due.told("shoe 30 2 3;house 0;house 0;way 0 1;girl 0 30 0 0;girl 0 28 0 0;girl 1 20 0 0;she 1;");
        x.seed(4711);
        x.soak(2);
        x.attempt();
        x.go(1);
        x.pad(2, 4);
        x.move(0, 1);
        return x;
    }

    private static void imagesKeep() {
        DUE.says("IMAGES 0, 1 keep HOURS, where all are, PADDING, water, who is MARRIED, FOUND, TRIES, THE SEED.");
        for (int i = 0; i < 2; i++) {
            SlipperFits x = kept();
            x.keep(i);
            String then = Due.stateOf(x);
            x.drift(9);
            x.soak(0);
            x.soak(2);
            x.pad(0, 1);
            x.pad(2, 5);
            x.go(0);
            x.move(2, 0);
            x.attempt();
            x.seed(9);
            DUE.is("goBack(" + i + ")", x.goBack(i), 1);
            DUE.holds("all is as it was kept", Due.stateOf(x).equals(then));
            DUE.is("HOURS", x.told(9), 1);
            DUE.is("where THE HERALD is", x.told(10), 1);
            DUE.is("where girl 0 is", x.girl(0, 0), 1);
            DUE.is("where girl 1 is", x.girl(1, 0), 0);
            DUE.is("PADDING", x.girl(2, 4), 4);
            DUE.is("no PADDING", x.girl(0, 4), 0);
            DUE.is("water", x.girl(2, 5), 3);
            DUE.is("no water", x.girl(0, 5), 0);
            DUE.is("MARRIED", x.told(13), 1);
            DUE.is("FOUND", x.told(14), 1);
            DUE.is("TRIES", x.told(11), 2);
            DUE.is("THE SEED", x.seed(0), 4711);
        }
        // and what was not so is not so again
        SlipperFits x = Due.told("house 0;girl 0 30 0 0;girl 0 30 0 0;");
        x.keep(0);
        x.attempt();
        x.pad(1, 5);
        x.soak(1);
        x.pass(1);
        x.goBack(0);
        DUE.is("not MARRIED", x.told(13), 0);
        DUE.is("not FOUND", x.told(14), 0);
        DUE.is("no TRIES", x.told(11), 0);
        DUE.is("not PADDED", x.girl(1, 4), 0);
        DUE.is("not SOAKED", x.girl(1, 5), 0);
    }

    private static void imagesKeepNoMore() {
        DUE.says("What is so becomes IMAGE i: 1.");
        SlipperFits x = Due.told("house 0;girl 0 30 0 0;");
        x.see(0, true);
        x.step(0);
        x.write(0, 0, true);
        x.keep(0);
        x.see(0, true);
        x.step(0);
        x.write(0, 0, true);
        x.feed('x');
        x.goBack(0);
        DUE.is("what was SEEN stays", x.told(15), 2);
        DUE.is("STEPS stay", x.told(16), 2);
        DUE.is("THE BOOK stays", x.told(17), 2);
        DUE.is("THE TEXT stays", x.told(3), 1);
    }

    private static void constants() {
        DUE.says("NONE is -1.");
        DUE.is("NONE", SlipperFits.NONE, -1);
        DUE.says("They are far below all that is counted: -1000000001 and on.");
        DUE.is("UNKNOWN", SlipperFits.UNKNOWN, -1000000001);
        DUE.is("OUTSIDE", SlipperFits.OUTSIDE, -1000000002);
        DUE.is("NOT", SlipperFits.NOT, -1000000003);
        DUE.is("FULL", SlipperFits.FULL, -1000000004);
    }
}
