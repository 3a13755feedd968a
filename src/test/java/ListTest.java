/** Promises 1 to 8: the list. */
public final class ListTest {
    private static final Due DUE = new Due("ListTest");
    private static final int NONE = SlipperFits.NONE, UNKNOWN = SlipperFits.UNKNOWN, OUTSIDE = SlipperFits.OUTSIDE, FULL = SlipperFits.FULL;

    public static void main(String[] args) {
        newObject();
        feeding();
        goodTexts();
        cannotStand();
        outOfBounds();
        tooMany();
        again();
        listBegins();
        listBeginsAnew();
        faultyListChangesNothing();
        asked();
        feet();
        DUE.end();
    }

    private static void newObject() {
        SlipperFits x = new SlipperFits();
        int[] told = {0, 0, 0, 0, 30, 1, 0, 12, NONE, 0, NONE, 0, 30, 0, 0, 0, 0, 0};
        for (int what = 0; what < told.length; what++) {
            DUE.is("new: told(" + what + ")", x.told(what), told[what]);
        }
        DUE.is("new: told(-1)", x.told(-1), OUTSIDE);
        DUE.is("new: told(18)", x.told(18), OUTSIDE);
        DUE.is("new: fault()", x.fault(), NONE);
        DUE.is("new: house(0, 0)", x.house(0, 0), UNKNOWN);
        DUE.is("new: girl(0, 0)", x.girl(0, 0), UNKNOWN);
        DUE.is("new: foot(0, 0)", x.foot(0, 0), UNKNOWN);
        DUE.is("new: could()", x.could(), 0);
        DUE.is("new: walker()", x.walker(), 0);
        DUE.is("new: list() of an empty text", x.list(), 0);
    }

    private static void feeding() {
        SlipperFits x = new SlipperFits();
        DUE.is("feed(-1)", x.feed(-1), OUTSIDE);
        DUE.is("feed(256)", x.feed(256), OUTSIDE);
        DUE.is("feed(0)", x.feed(0), 1);
        DUE.is("feed(255)", x.feed(255), 2);
        DUE.is("told(3)", x.told(3), 2);
        DUE.is("list() of bytes that cannot stand", x.list(), -11);
        DUE.is("fault()", x.fault(), 0);
        DUE.is("told(3) behind a fault", x.told(3), 0);
        for (int i = 1; i <= 300; i++) {
            DUE.is("feed " + i, x.feed(' '), i);
        }
        DUE.is("feed 301", x.feed(' '), FULL);
        DUE.is("feed(256) when full", x.feed(256), OUTSIDE);
        DUE.is("told(3) when full", x.told(3), 300);
        DUE.is("list() of 300 blanks", x.list(), 0);
        DUE.is("feed behind list()", x.feed(' '), 1);
    }

    private static void text(String text, int answer, int fault) {
        SlipperFits x = new SlipperFits();
        DUE.is("list() of " + text, Due.tell(x, text), answer);
        DUE.is("fault() of " + text, x.fault(), fault);
    }

    private static void goodTexts() {
        text("   ", 0, NONE);
        text("shoe 30 1 0;", 0, NONE);
        text("shoe30 1 0;", 0, NONE);
        text("  shoe  30  1  0  ;  ", 0, NONE);
        text("shoe 1 0 0;", 0, NONE);
        text("shoe 099 009 099;", 0, NONE);
        text("noon 0;", 0, NONE);
        text("noon23;", 0, NONE);
        text("house 0;house 9;way 0 1;", 0, NONE);
        text("house 0;house9;way1 0;girl1 99 9 8;girl 0 1 0 0;gait1abcabc;gait 0 c;she1;", 2, NONE);
        text("house 0;house 0;house 0;house 0;house 0;house 0;way 0 1;way 0 2;way 0 3;way 0 4;way 0 5;way 1 2;way 1 3;way 1 4;way 1 5;", 0, NONE);
        text("house 0;girl 0 1 0 0;girl 0 1 0 0;girl 0 1 0 0;girl 0 1 0 0;girl 0 1 0 0;girl 0 1 0 0;", 6, NONE);
    }

    private static void cannotStand() {
        text(";", -11, 0);
        text("noon 1;;", -11, 7);
        text("sho 1 1 1;", -11, 0);
        text(" shoes 1 1 1;", -11, 1);
        text("Shoe 1 1 1;", -11, 0);
        text("sHoe 1 1 1;", -11, 0);
        text("12;", -11, 0);
        text("noon 1; 12;", -11, 8);
        text("shoe", -11, 4);
        text("shoe  ", -11, 6);
        text("shoe ;", -11, 5);
        text("shoe a 1 1;", -11, 5);
        text("shoe 1 1;", -11, 8);
        text("shoe 1 1 1", -11, 10);
        text("shoe 1 1 1  ", -11, 12);
        text("shoe 1 1 1 1;", -11, 11);
        text("shoe 1 1 1 1000;", -11, 11);
        text("shoe 1 1 1x;", -11, 10);
        text("shoe 1 1 1,", -11, 10);
        text("shoe -1 1 1;", -11, 5);
        text("shoe\t1 1 1;", -11, 4);
        text("shoe 1 1 1;\n", -11, 11);
        text("sho e 1 1 1;", -11, 0);
        text("ahoe 1 1 1;", -11, 0);
        text("dirl 0 1 1 1;", -11, 0);
        text("noon 1 2;", -11, 7);
        text("noonnoon 1;", -11, 0);
        text("house 1;girl 0 1 1 1;gait 0;", -11, 27);
        text("house 1;girl 0 1 1 1;gait 0 1;", -11, 28);
        text("house 1;girl 0 1 1 1;gait 0 a b;", -11, 30);
        text("house 1;girl 0 1 1 1;gait 0 abA;", -11, 30);
        text("house 1;girl 0 1 1 1;gait a 0;", -11, 26);
        text("house 1;girl 0 1 1 1;gait 0 aab", -11, 31);
        text("she;", -11, 3);
    }

    private static void outOfBounds() {
        text("shoe 0001 1 1;", -12, 5);
        text("shoe 0 1 1;", -12, 5);
        text("shoe 100 1 1;", -12, 5);
        text("shoe 12345678901234567890 1 1;", -12, 5);
        text("shoe 1 10 1;", -12, 7);
        text("shoe 1 1 100;", -12, 9);
        text("shoe 1 1 1000", -12, 9);
        text("noon 24;", -12, 5);
        text("noon 24", -12, 5);
        text("house 10;", -12, 6);
        text("way 0 1;", -12, 4);
        text("house 1;way 0 1;", -12, 14);
        text("house 1;way 0 0000;", -12, 14);
        text("house 1;house 1;way 1 2;", -12, 22);
        text("house 1;house 1;way 2 1;", -12, 20);
        text("girl 0 1 1 1;house 1;", -12, 5);
        text("house 1;girl 1 1 1 1;", -12, 13);
        text("house 1;girl 0 0 1 1;", -12, 15);
        text("house 1;girl 0 100 1 1;", -12, 15);
        text("house 1;girl 0 1 10 1;", -12, 17);
        text("house 1;girl 0 1 1 9;", -12, 19);
        text("gait 0 a;", -12, 5);
        text("house 1;girl 0 1 1 1;gait 1 a;", -12, 26);
        text("house 1;girl 0 1 1 1;gait 0 a;gait 0000 a;", -12, 35);
        text("she 0;", -12, 4);
        text("house 1;girl 0 1 1 1;she 1;", -12, 25);
    }

    private static void tooMany() {
        text("shoe 1 1 1;shoe 1 1 1;", -13, 11);
        text("shoe 1 1 1; shoe", -13, 12);
        text("noon 1;noon 99;", -13, 7);
        text("house 1;girl 0 1 1 1;she 0;she 0;", -13, 27);
        text("house 1;house 1;house 1;house 1;house 1;house 1;house 1;", -13, 48);
        String houses = "house 0;house 0;house 0;house 0;house 0;house 0;";
        text(houses + "way 0 1;way 0 2;way 0 3;way 0 4;way 0 5;way 1 2;way 1 3;way 1 4;way 1 5;way 2 3;", -13, 120);
        text(houses + "way 0 1;way 0 2;way 0 3;way 0 4;way 0 5;way 1 2;way 1 3;way 1 4;way 1 5;way 0 0;", -13, 120);
        String girl = "girl 0 1 0 0;";
        text("house 0;" + girl + girl + girl + girl + girl + girl + girl, -13, 86);
    }

    private static void again() {
        text("house 1;way 0 0;", -14, 14);
        text("house 1;house 1;way 0 1;way 0 1;", -14, 30);
        text("house 1;house 1;way 0 1;way 1 0;", -14, 30);
        text("house 1;house 1;way 0 1;way 1 0", -14, 30);
        String girl = "house 1;girl 0 1 1 1;";
        text(girl + "gait 0 a;gait 0 b;", -14, 35);
        text(girl + "gait 0 a;gait 0;", -14, 35);
        text(girl + "gait 0 abd;", -14, 28);
        text(girl + "gait 0 abcabca;", -14, 28);
        text(girl + "gait 0 shoe;", -14, 28);
        text(girl + "gait 0zzzzzzzzz", -14, 27);
    }

    private static void listBegins() {
        SlipperFits x = Due.told("shoe 40 2 1;noon 3;house 1;house 2;way 0 1;girl 0 37 1 1;girl 1 30 2 2;girl 0 39 0 0;she 1;gait 0 abc;");
        x.seed(77);
        x.pass(5);
        x.attempt();
        x.go(1);
        x.soak(0);
        x.pad(1, 5);
        x.move(0, 1);
        x.see(3, true);
        x.step(1);
        x.write(5, 1, true);
        x.keep(0);
        DUE.is("told(13) ahead of list()", x.told(13), 5);
        DUE.is("list() of two girls", Due.tell(x, "house 4;house 5;girl 1 20 3 4;girl 0 26 3 4;"), 2);
        int[] told = {2, 0, 2, 0, 30, 1, 0, 12, 0, 0, 0, 0, 30, 0, 0, 0, 0, 0};
        for (int what = 0; what < told.length; what++) {
            DUE.is("listed anew: told(" + what + ")", x.told(what), told[what]);
        }
        int[][] girls = {{1, 20, 3, 4, 0, 0, 25, 0, 1}, {0, 26, 3, 4, 0, 0, 30, 1, 1}};
        for (int g = 0; g < 2; g++) {
            for (int what = 0; what < 9; what++) {
                DUE.is("listed anew: girl(" + g + ", " + what + ")", x.girl(g, what), girls[g][what]);
            }
        }
        DUE.is("listed anew: goBack(0)", x.goBack(0), SlipperFits.NOT);
        DUE.is("listed anew: the seed stays", x.seed(1), 77);
        DUE.is("listed anew: fault()", x.fault(), NONE);
        DUE.is("list() of nothing", x.list(), 0);
        DUE.is("told(0) behind it", x.told(0), 0);
        DUE.is("told(8) behind it", x.told(8), NONE);
        DUE.is("told(10) behind it", x.told(10), NONE);
    }

    private static void listBeginsAnew() {
        SlipperFits x = new SlipperFits();
        String list = "noon23;shoe99 8 7;house5;girl0 92 2 2;gait0ab;she0;";
        DUE.is("list()", Due.tell(x, list), 1);
        DUE.is("noon without a blank", x.told(7), 23);
        DUE.is("S without a blank", x.told(4), 99);
        DUE.is("stairs without a blank", x.house(0, 0), 5);
        DUE.is("letters without a blank", x.girl(0, 8), 2);
        DUE.is("attempt()", x.attempt(), 1);
        DUE.is("found", x.told(14), 1);
        Due.tell(x, "noon 99;");
        DUE.is("a fault", x.fault(), 5);
        DUE.is("the same list again has no fault", Due.tell(x, list), 1);
        DUE.is("no fault any more", x.fault(), NONE);
        DUE.is("not found any more", x.told(14), 0);
        DUE.is("a list of a girl without gait", Due.tell(x, "house 0;girl 0 1 0 0;"), 1);
        DUE.is("her row is a", x.girl(0, 8), 1);
        x.step(1);
        DUE.is("her row is no more ab", x.walker(), 0);
    }

    private static void faultyListChangesNothing() {
        SlipperFits x = Due.told("shoe 40 2 1;noon 3;house 1;house 2;way 0 1;girl 0 37 1 1;girl 1 30 2 2;she 1;gait 0 abc;");
        x.pass(5);
        x.attempt();
        x.soak(0);
        x.pad(1, 5);
        x.see(3, true);
        x.step(1);
        x.write(5, 1, true);
        x.keep(0);
        String before = Due.stateOf(x);
        String[] faulty = {"shoe 1 1 1;noon 1;house 9;girl 0 9 9 8;she 0;x", "house 3;house 3;way 0 1;way 0 1;", "noon 1;noon"};
        int[] bytes = {45, 30, 7};
        for (int i = 0; i < faulty.length; i++) {
            DUE.holds("faulty: " + faulty[i], Due.tell(x, faulty[i]) < -10);
            DUE.is("fault() of it", x.fault(), bytes[i]);
            DUE.holds("all is as it was behind " + faulty[i], Due.stateOf(x).equals(before));
        }
        DUE.is("the image is still there", x.goBack(0), 1);
    }

    private static void asked() {
        SlipperFits x = Due.told("shoe 30 2 4;noon 7;house 0;house 2;house 1;way 0 1;way 2 1;girl 1 26 2 4;girl 2 28 1 6;girl 1 30 0 0;gait 1 abcabc;she 2;");
        int[] told = {3, 2, 3, 0, 30, 2, 4, 7, 2};
        for (int what = 0; what < told.length; what++) {
            DUE.is("told(" + what + ")", x.told(what), told[what]);
        }
        int[][] houses = {{0, 2, 0}, {2, 5, 5}, {1, 2, 2}};
        for (int h = 0; h < 3; h++) {
            for (int what = 0; what < 3; what++) {
                DUE.is("house(" + h + ", " + what + ")", x.house(h, what), houses[h][what]);
            }
        }
        DUE.is("house(3, 0)", x.house(3, 0), UNKNOWN);
        DUE.is("house(-1, 9)", x.house(-1, 9), UNKNOWN);
        DUE.is("house(2, 3)", x.house(2, 3), OUTSIDE);
        DUE.is("house(2, -1)", x.house(2, -1), OUTSIDE);
        int[][] girls = {{1, 26, 2, 4, 0, 0, 28, 1, 1}, {2, 28, 1, 6, 0, 0, 29, 1, 6}, {1, 30, 0, 0, 0, 0, 32, 0, 1}};
        for (int g = 0; g < 3; g++) {
            for (int what = 0; what < 9; what++) {
                DUE.is("girl(" + g + ", " + what + ")", x.girl(g, what), girls[g][what]);
            }
        }
        DUE.is("girl(3, 0)", x.girl(3, 0), UNKNOWN);
        DUE.is("girl(-1, 0)", x.girl(-1, 0), UNKNOWN);
        DUE.is("girl(6, 77)", x.girl(6, 77), UNKNOWN);
        DUE.is("girl(0, 9)", x.girl(0, 9), OUTSIDE);
        DUE.is("girl(0, -1)", x.girl(0, -1), OUTSIDE);
    }

    private static void feet() {
        SlipperFits x = Due.told("noon 5;house 0;house 3;girl 0 1 2 0;girl 1 27 2 0;");
        DUE.is("foot(1, 0)", x.foot(1, 0), 30);
        DUE.is("foot(1, 4)", x.foot(1, 4), 30);
        DUE.is("foot(1, 5)", x.foot(1, 5), 32);
        DUE.is("foot(1, 23)", x.foot(1, 23), 32);
        DUE.is("foot(1, 24)", x.foot(1, 24), 30);
        DUE.is("foot(1, 29)", x.foot(1, 29), 32);
        DUE.is("foot(1, 99999)", x.foot(1, 99999), 32);
        DUE.is("foot(1, 100000)", x.foot(1, 100000), OUTSIDE);
        DUE.is("foot(1, -1)", x.foot(1, -1), OUTSIDE);
        DUE.is("foot(2, -1)", x.foot(2, -1), UNKNOWN);
        x.pass(2);
        x.soak(0);
        int[] feet = {1, 1, 0, 0, 0, 0, 3};
        for (int hour = 0; hour < feet.length; hour++) {
            DUE.is("foot(0, " + hour + ") soaked at 2", x.foot(0, hour), feet[hour]);
        }
        x.pad(0, 4);
        int[] padded = {5, 5, 2, 2, 2, 4, 7};
        for (int hour = 0; hour < padded.length; hour++) {
            DUE.is("foot(0, " + hour + ") soaked at 2, padded", x.foot(0, hour), padded[hour]);
        }
    }
}
