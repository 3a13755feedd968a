/** Section 1 of the document's terms and promises 1 to 4, sentence by sentence, at their bounds. */
public final class TextEdgesTest {
    private static final Due DUE = new Due("TextEdgesTest");
    private static final int NONE = SlipperFits.NONE, UNKNOWN = SlipperFits.UNKNOWN, OUTSIDE = SlipperFits.OUTSIDE,
        NOT = SlipperFits.NOT, FULL = SlipperFits.FULL;
    private static final String SIX_HOUSES = "house 0;house 1;house 2;house 3;house 4;house 5;";
    private static final String NINE_WAYS = "way 0 1;way 0 2;way 0 3;way 0 4;way 0 5;way 1 2;way 1 3;way 1 4;way 1 5;";
    private static final String SIX_GIRLS = "girl 0 1 0 0;girl 0 2 0 0;girl 0 3 0 0;girl 0 4 0 0;girl 0 5 0 0;girl 0 6 0 0;";

    public static void main(String[] args) {
        newObject();
        bytes();
        fullText();
        fullList();
        emptyText();
        shoe();
        noon();
        house();
        way();
        girl();
        gait();
        she();
        figures();
        words();
        blanks();
        firstFault();
        leastFault();
        cannotStand();
        end();
        outOfBounds();
        tooMany();
        twice();
        otherRows();
        listed();
        textIsEmpty();
        begunAnew();
        asItWas();
        faultOfTheLatest();
        DUE.end();
    }

    // ---- what the tests say it with

    private static void fails(String text, int number, int where) {
        SlipperFits x = new SlipperFits();
        DUE.is("list() of '" + text + "'", Due.tell(x, text), -10 - number);
        DUE.is("fault() of '" + text + "'", x.fault(), where);
    }

    private static SlipperFits stands(String text, int girls) {
        SlipperFits x = new SlipperFits();
        DUE.is("list() of '" + text + "'", Due.tell(x, text), girls);
        DUE.is("fault() of '" + text + "'", x.fault(), NONE);
        return x;
    }

    /** A NUMBER within a text: what is out of its bounds is fault 2 at its first figure. */
    private static void number(String before, int least, int most, String behind, int girls) {
        for (int n : new int[] {least, least + 1, most - 1, most}) {
            stands(before + n + behind, girls);
        }
        for (int n : new int[] {most + 1, most + 10, 999, 1000, 1000 + least}) {
            fails(before + n + behind, 2, before.length());
        }
        if (least > 0) {
            fails(before + (least - 1) + behind, 2, before.length());
        }
    }

    private static String blanksOf(int n) {
        return " ".repeat(n);
    }

    // ---- the text

    private static void newObject() {
        DUE.says("No HOUSES, no GIRLS.");
        SlipperFits x = new SlipperFits();
        DUE.is("told(0)", x.told(0), 0);
        DUE.is("told(2)", x.told(2), 0);
        DUE.is("house(0, 0)", x.house(0, 0), UNKNOWN);
        DUE.is("girl(0, 0)", x.girl(0, 0), UNKNOWN);
        int[] told = {0, 0, 0, 0, 30, 1, 0, 12, NONE, 0, NONE, 0, 30, 0, 0, 0, 0, 0};
        for (int what = 0; what < told.length; what++) {
            DUE.is("told(" + what + ")", x.told(what), told[what]);
        }
    }

    private static void bytes() {
        DUE.says("A byte (0 .. 255) comes behind THE TEXT: how many it has. OUTSIDE");
        SlipperFits x = new SlipperFits();
        DUE.bounds("feed", 0, 255, OUTSIDE, n -> x.feed(n));
        DUE.is("told(3) behind four bytes and four refusals", x.told(3), 4);
        DUE.is("feed: one more", x.feed('x'), 5);
        DUE.is("list(): byte 0 came first", x.list(), -11);
        DUE.is("fault()", x.fault(), 0);
        SlipperFits y = Due.told("");
        String text = "house 1;";
        for (int i = 0; i < text.length(); i++) {
            DUE.is("feed " + i, y.feed(text.charAt(i)), i + 1);
        }
        DUE.is("list(): behind, not ahead", y.list(), 0);
        DUE.is("told(0)", y.told(0), 1);
    }

    private static void fullText() {
        DUE.says("THE LIST is told in a text (300 bytes at most), letter by letter: clauses:");
        SlipperFits x = new SlipperFits();
        String text = "house" + blanksOf(293) + "7;";
        for (int i = 0; i < 300; i++) {
            DUE.is("feed " + i, x.feed(text.charAt(i)), i + 1);
        }
        DUE.says("FULL (300).");
        DUE.is("feed of a 301st", x.feed('x'), FULL);
        DUE.is("feed of a 302nd", x.feed(' '), FULL);
        DUE.is("told(3)", x.told(3), 300);
        DUE.is("list(): the 300 bytes alone", x.list(), 0);
        DUE.is("house(0, 0)", x.house(0, 0), 7);
        DUE.is("feed when there is room again", x.feed('x'), 1);
        SlipperFits almost = new SlipperFits();
        for (int i = 0; i < 299; i++) {
            almost.feed(' ');
        }
        DUE.is("told(3)", almost.told(3), 299);
        DUE.is("feed of the 300th", almost.feed('x'), 300);
        DUE.is("list()", almost.list(), -11);
        DUE.is("fault() at the last byte", almost.fault(), 299);
        fails("house" + blanksOf(294) + "7", 1, 300);
        fails("house" + blanksOf(295), 1, 300);
        fails(blanksOf(296) + "hous", 1, 296);
    }

    private static void fullList() {
        DUE.says("6 HOUSES at most");
        String text = "shoe30 1 0;noon12;house0;house1;house2;house3;house4;house9;way0 1;way0 2;way0 3;way0 4;way0 5;way1 2;way1 3;"
            + "way1 4;way1 5;girl0 30 0 0;girl1 30 0 0;girl2 30 0 0;girl3 30 0 0;girl4 30 0 0;girl5 30 0 8;"
            + "gait0abcabc;gait1abcabc;gait2abcabc;gait3abcabc;gait4abcabc;gait5cbacba;she5;";
        SlipperFits x = stands(text, 6);
        DUE.is("told(0)", x.told(0), 6);
        DUE.is("told(1)", x.told(1), 9);
        DUE.is("told(2)", x.told(2), 6);
        DUE.is("told(8)", x.told(8), 5);
        DUE.says("What has a number has it from 0 on, as it comes.");
        int[] stairs = {0, 1, 2, 3, 4, 9};
        for (int h = 0; h < 6; h++) {
            DUE.is("house(" + h + ", 0)", x.house(h, 0), stairs[h]);
            DUE.is("girl(" + h + ", 0)", x.girl(h, 0), h);
            DUE.is("girl(" + h + ", 8)", x.girl(h, 8), 6);
        }
        DUE.is("girl(5, 3)", x.girl(5, 3), 8);
        DUE.is("girl(4, 3)", x.girl(4, 3), 0);
    }

    private static void emptyText() {
        DUE.says("untold");
        for (String text : new String[] {"", " ", blanksOf(300)}) {
            SlipperFits x = stands(text, 0);
            int[] told = {0, 0, 0, 0, 30, 1, 0, 12, NONE, 0, NONE, 0, 30, 0, 0, 0, 0, 0};
            for (int what = 0; what < told.length; what++) {
                DUE.is("told(" + what + ") of " + text.length() + " blanks", x.told(what), told[what]);
            }
        }
    }

    // ---- the clauses

    private static void shoe() {
        DUE.says("'shoe' S T W ';' (S long, 1 .. 99;");
        number("shoe ", 1, 99, " 1 0;", 0);
        DUE.says("T 0 .. 9 to spare;");
        number("shoe 30 ", 0, 9, " 0;", 0);
        DUE.says("one longer behind every W tries, 0 .. 99, 0: never;");
        number("shoe 30 1 ", 0, 99, ";", 0);
        SlipperFits x = stands("shoe 98 7 65;", 0);
        DUE.is("told(4)", x.told(4), 98);
        DUE.is("told(5)", x.told(5), 7);
        DUE.is("told(6)", x.told(6), 65);
        DUE.says("30 1 0 untold; once)");
        SlipperFits untold = stands("noon 3;", 0);
        DUE.is("told(4)", untold.told(4), 30);
        DUE.is("told(5)", untold.told(5), 1);
        DUE.is("told(6)", untold.told(6), 0);
        fails("shoe 30 1 0;shoe 30 1 0;", 3, 12);
    }

    private static void noon() {
        DUE.says("'noon' H ';' (0 .. 23;");
        number("noon ", 0, 23, ";", 0);
        for (int h : new int[] {0, 1, 22, 23}) {
            DUE.is("told(7)", stands("noon " + h + ";", 0).told(7), h);
        }
        DUE.says("12 untold; once)");
        DUE.is("told(7)", stands("shoe 1 1 1;", 0).told(7), 12);
        fails("noon 12;noon 12;", 3, 8);
    }

    private static void house() {
        DUE.says("'house' R ';' (6 HOUSES at most: R stairs, 0 .. 9)");
        number("house ", 0, 9, ";", 0);
        DUE.is("told(0) of five", stands(SIX_HOUSES.substring(8), 0).told(0), 5);
        DUE.is("told(0) of six", stands(SIX_HOUSES, 0).told(0), 6);
        fails(SIX_HOUSES + "house 6;", 3, 48);
    }

    private static void way() {
        DUE.says("'way' A B ';' (9 at most,");
        DUE.is("told(1) of eight", stands(SIX_HOUSES + NINE_WAYS.substring(8), 0).told(1), 8);
        DUE.is("told(1) of nine", stands(SIX_HOUSES + NINE_WAYS, 0).told(1), 9);
        fails(SIX_HOUSES + NINE_WAYS + "way 2 3;", 3, 120);
        DUE.says("between unlike HOUSES told ahead,");
        String three = "house 0;house 0;house 0;";
        stands(three + "way 0 1;", 0);
        stands(three + "way 2 1;", 0);
        stands(three + "way 1 0;", 0);
        stands(three + "way 1 2;", 0);
        fails(three + "way 3 1;", 2, 28);
        fails(three + "way 1 3;", 2, 30);
        fails(three + "way 6 1;", 2, 28);
        fails(three + "way 1 1;", 4, 30);
        fails(three + "way 0 0;", 4, 30);
        fails("way 0 1;" + three, 2, 4);
        fails("house 0;way 0 1;house 0;", 2, 14);
        DUE.says("each two once, either way round)");
        fails(three + "way 0 1;way 0 1;", 4, 38);
        fails(three + "way 0 1;way 1 0;", 4, 38);
        fails(three + "way 2 0;way 1 2;way 0 2;", 4, 46);
        SlipperFits x = stands(three + "way 0 1;way 2 0;", 0);
        DUE.is("house(0, 1)", x.house(0, 1), 6);
        DUE.is("house(1, 1)", x.house(1, 1), 1);
        DUE.is("house(2, 1)", x.house(2, 1), 1);
    }

    private static void girl() {
        DUE.says("'girl' H Z S Q ';' (6 GIRLS at most:");
        String five = "girl 0 1 0 0;girl 0 2 0 0;girl 0 3 0 0;girl 0 4 0 0;girl 0 5 0 0;";
        stands("house 0;" + five, 5);
        stands("house 0;" + SIX_GIRLS, 6);
        fails("house 0;" + SIX_GIRLS + "girl 0 7 0 0;", 3, 86);
        DUE.says("of HOUSE H told ahead,");
        fails("girl 0 1 0 0;house 0;", 2, 5);
        stands("house 0;house 0;girl 0 1 0 0;", 1);
        stands("house 0;house 0;girl 1 1 0 0;", 1);
        fails("house 0;house 0;girl 2 1 0 0;", 2, 21);
        fails("house 0;girl 1 1 0 0;house 0;", 2, 13);
        DUE.says("foot Z 1 .. 99,");
        number("house 0;girl 0 ", 1, 99, " 0 0;", 1);
        DUE.says("swells by S 0 .. 9 from noon on,");
        number("house 0;girl 0 30 ", 0, 9, " 0;", 1);
        DUE.says("by a chance of Q 0 .. 8 in 8)");
        number("house 0;girl 0 30 0 ", 0, 8, ";", 1);
        SlipperFits x = stands("house 0;house 0;girl 1 98 7 6;", 1);
        int[] told = {1, 98, 7, 6};
        for (int what = 0; what < 4; what++) {
            DUE.is("girl(0, " + what + ")", x.girl(0, what), told[what]);
        }
    }

    private static void gait() {
        String two = "house 0;girl 0 30 0 0;girl 0 30 0 0;";
        DUE.says("'gait' G ROW ';' (GIRL G told ahead, once each:");
        stands(two + "gait 0 b;", 2);
        stands(two + "gait 1 b;", 2);
        stands(two + "gait 1 b;gait 0 b;", 2);
        fails(two + "gait 2 b;", 2, 41);
        fails("house 0;gait 0 b;girl 0 30 0 0;", 2, 13);
        fails(two + "gait 0 b;gait 0 b;", 4, 50);
        fails(two + "gait 0 b;gait 1 b;gait 0 c;", 4, 59);
        fails(two + "gait 0 b;gait 1 b;gait 1 b;", 4, 59);
        DUE.says("a word of 1 to 6 letters a, b, c;");
        String row = "";
        for (int letters = 1; letters <= 6; letters++) {
            row += "abccba".charAt(letters - 1);
            DUE.is("letters", stands(two + "gait 1 " + row + ";", 2).girl(1, 8), letters);
        }
        fails(two + "gait 1 ;", 1, 43);
        fails(two + "gait 1 abccbaa;", 4, 43);
        DUE.says("a untold)");
        SlipperFits x = stands(two + "gait 1 bb;", 2);
        DUE.is("girl(0, 8)", x.girl(0, 8), 1);
        x.step(0);
        DUE.is("walker() of a", x.walker(), 1);
    }

    private static void she() {
        String two = "house 0;girl 0 30 0 0;girl 0 30 0 0;";
        DUE.says("'she' G ';' (GIRL G told ahead;");
        DUE.is("told(8)", stands(two + "she 0;", 2).told(8), 0);
        DUE.is("told(8)", stands(two + "she 1;", 2).told(8), 1);
        fails(two + "she 2;", 2, 40);
        fails("she 0;" + two, 2, 4);
        fails("house 0;girl 0 30 0 0;she 1;girl 0 30 0 0;", 2, 26);
        DUE.says("0 untold; once).");
        DUE.is("told(8)", stands(two, 2).told(8), 0);
        DUE.is("told(8)", stands("house 0;girl 0 30 0 0;she 0;girl 0 30 0 0;", 2).told(8), 0);
        fails(two + "she 1;she 1;", 3, 42);
    }

    // ---- what it is written with

    private static void figures() {
        DUE.says("NUMBERS have one to three figures;");
        DUE.is("one", stands("noon 7;", 0).told(7), 7);
        DUE.is("two", stands("noon 07;", 0).told(7), 7);
        DUE.is("three", stands("noon 007;", 0).told(7), 7);
        DUE.is("three", stands("noon 023;", 0).told(7), 23);
        DUE.is("three of 0", stands("noon 000;", 0).told(7), 0);
        fails("noon 0007;", 2, 5);
        fails("noon 0000;", 2, 5);
        fails("noon 4294967303;", 2, 5);
        fails("noon " + "0".repeat(295), 2, 5);
        DUE.is("all ten", stands("shoe 98 7 65;noon 04;house 3;house 2;house 1;house 0;", 0).told(7), 4);
        // the bytes next to 0 and 9
        fails("noon /;", 1, 5);
        fails("noon :;", 1, 5);
        fails("noon 1/;", 1, 6);
        fails("noon 1:;", 1, 6);
    }

    private static void words() {
        DUE.says("words are letters a .. z side by side;");
        String[] known = {"shoe", "noon", "house", "way", "girl", "gait", "she"};
        for (String word : known) {
            fails(word + "x 0;", 1, 0);
            fails(word + word + " 0;", 1, 0);
            fails("x" + word + " 0;", 1, 0);
            fails(word.substring(1) + " 0;", 1, 0);
            fails(word.substring(0, word.length() - 1) + " 0;", 1, 0);
            fails(word.toUpperCase() + " 0;", 1, 0);
            for (int i = 0; i < word.length(); i++) {
                fails(" " + word.substring(0, i) + "q" + word.substring(i + 1) + " 0;", 1, 1);
            }
        }
        // the bytes next to a and z end a word, and cannot stand themselves
        fails("noon`12;", 1, 4);
        fails("noon{12;", 1, 4);
        fails("noona12;", 1, 0);
        fails("noonz12;", 1, 0);
        fails("`noon 12;", 1, 0);
        fails("{noon 12;", 1, 0);
    }

    private static void blanks() {
        DUE.says("blanks (32) may stand anywhere but within words and NUMBERS;");
        DUE.is("told(7)", stands("   noon   13   ;   ", 0).told(7), 13);
        DUE.is("told(7)", stands("noon13;", 0).told(7), 13);
        stands("  house  0  ;  house  0  ;  way  0  1  ;  girl  1  30  2  3  ;  gait  0  abc  ;  she  0  ;  ", 1);
        stands("house0;house0;way0 1;girl1 30 2 3;gait0abc;she0;", 1);
        fails("no on 13;", 1, 0);
        fails("noon 1 3;", 1, 7);
        fails("house 0;girl 0 30 0 0;gait 0 ab c;", 1, 32);
        for (int c : new int[] {0, 9, 10, 13, 31, 33, 160, 255}) {
            fails("noon" + (char) c + "13;", 1, 4);
            fails((char) c + "noon 13;", 1, 0);
            fails("noon 13" + (char) c + ";", 1, 7);
            fails("noon 13;" + (char) c, 1, 8);
        }
        DUE.says("two words, two NUMBERS side by side need one.");
        fails("shoe 301 0;", 2, 5);
        fails("shoe 11 0;", 1, 9);
        stands("shoe 1 1 0;", 0);
        fails("shenoon 0;", 1, 0);
        stands("house 0;girl 0 30 0 0;gait 0c;", 1);
    }

    // ---- FAULTS

    private static void firstFault() {
        DUE.says("FAULTS, at the first byte that has one");
        fails("noon 24;x", 2, 5);
        fails("noon 1;noon 24;x", 3, 7);
        fails("house 0;way 0 0;x", 4, 14);
        fails("x;noon 24;", 1, 0);
        fails("shoe 0 10 100;", 2, 5);
        fails("shoe 1 10 100;", 2, 7);
        fails("shoe 1 9 100x", 2, 9);
        fails("house 0;girl 0 0 10 9;", 2, 15);
        fails("house 0;girl 0 1 10 9;", 2, 17);
        fails("house 0;girl 0 1 9 9;", 2, 19);
        fails(SIX_HOUSES + "house 10;", 3, 48);
        fails("house 0;girl 0 1 0 0;gait 1 xyz;", 2, 26);
        fails("house 0;girl 0 1 0 0;gait 0 a;gait 0 xyz;", 4, 35);
        fails("noon 5 ;noon", 3, 8);
    }

    private static void leastFault() {
        DUE.says("of these the least:");
        // 2 and 4 at one byte: of four figures, and like A, or of a girl again
        fails("house 0;way 0 0000;", 2, 14);
        fails("house 0;house 0;way 0 1;way 0 0001;", 2, 30);
        fails("house 0;girl 0 1 0 0;gait 0 a;gait 0000 a;", 2, 35);
        // 1 and 2: no NUMBER can stand there; 1 and 3: no 'noon' can, either
        fails("0000;", 1, 0);
        fails("noon 1 0000;", 1, 7);
        fails("house 0;girl 0 1 0 0;gait 0 0000;", 1, 28);
        fails("noon 1 noon 1;", 1, 7);
        fails("noon noon;", 1, 5);
        fails("noon 1;shoe noon;", 1, 12);
        // 4 alone
        fails("house 0;way 0 000;", 4, 14);
        fails("house 0;house 0;way 0 1;way 0 001;", 4, 30);
        fails("house 0;girl 0 1 0 0;gait 0 a;gait 000 a;", 4, 35);
    }

    private static void cannotStand() {
        DUE.says("1 it cannot stand there (a word that cannot: at its first letter).");
        fails(";", 1, 0);
        fails("7;", 1, 0);
        fails("noon 1;;", 1, 7);
        fails("noon ;", 1, 5);
        fails("noon x;", 1, 5);
        fails("noon house;", 1, 5);
        fails("noon 1 house;", 1, 7);
        fails("noon 1house;", 1, 6);
        fails("noon 1 2;", 1, 7);
        fails("noon 1 2000;", 1, 7);
        fails("noon -1;", 1, 5);
        fails("  prince 1;", 1, 2);
        fails("noon 1;prince 1;", 1, 7);
        fails("noon 1;shoes 1 1 1;", 1, 7);
        fails("house 1 1;", 1, 8);
        fails("house 0;house 0;way 0;", 1, 21);
        fails("house 0;house 0;way 0 1 1;", 1, 24);
        fails("house 0;girl 0 1 0;", 1, 18);
        fails("house 0;girl 0 1 0 0 0;", 1, 21);
        fails("house 0;girl 0 1 0 0;gait 0 7;", 1, 28);
        fails("house 0;girl 0 1 0 0;gait abc;", 1, 26);
        fails("house 0;girl 0 1 0 0;gait 0 abc 7;", 1, 32);
        fails("house 0;girl 0 1 0 0;gait 0 abcd7;", 4, 28);
        fails("house 0;girl 0 1 0 0;gait 0 abc7;", 1, 31);
        fails("house 0;girl 0 1 0 0;she 0 0;", 1, 27);
        for (int c = 0; c < 256; c++) {
            boolean may = c == ' ' || c == ';' || c >= '0' && c <= '9';
            if (!may) {
                fails("noon 1" + (char) c + ";", 1, 6);
            }
        }
    }

    private static void end() {
        DUE.says("(the end at the text's length),");
        int[] noon = {0, 0, 0, 4, 5, 6, 7};
        for (int bytes = 1; bytes <= 7; bytes++) {
            fails("noon 12;".substring(0, bytes), 1, noon[bytes - 1]);
            fails("noon 1;shoe 1 1 1;".substring(0, 7 + Math.min(bytes, 3)), 1, 7);
        }
        stands("noon 12;", 0);
        fails("noon 12   ", 1, 10);
        fails("noon   ", 1, 7);
        String girl = "house 0;girl 0 1 0 0;";
        fails(girl + "gait 0", 1, 27);
        fails(girl + "gait 0 ", 1, 28);
        fails(girl + "gait 0 ab", 1, 30);
        fails(girl + "gait 0 ab ", 1, 31);
        fails(girl + "gait", 1, 25);
        fails(girl + "she", 1, 24);
        fails("house 0;house 0;way 0", 1, 21);
        fails("house 0;house 0;way 0 1", 1, 23);
        fails("shoe 1 1", 1, 8);
    }

    private static void outOfBounds() {
        DUE.says("2 a NUMBER of four figures or more, or out of its bounds;");
        fails("noon 0001;", 2, 5);
        fails("noon 00001;", 2, 5);
        fails("noon 24;", 2, 5);
        fails("noon   24;", 2, 7);
        fails("noon24;", 2, 4);
        fails("noon 24", 2, 5);
        fails("noon 0001x", 2, 5);
        DUE.says("a HOUSE, GIRL that was not told yet (at its first).");
        fails("way 0 0;", 2, 4);
        fails("house 0;way   1 0;", 2, 14);
        fails("house 0;way 0   12;", 2, 16);
        fails("girl 0 1 0 0;", 2, 5);
        fails("house 0;girl 10 1 0 0;", 2, 13);
        fails("gait 0 a;", 2, 5);
        fails("she 0;", 2, 4);
        fails("house 0;girl 0 1 0 0;she 11;", 2, 25);
    }

    private static void tooMany() {
        DUE.says("3 'shoe', 'noon', 'she' again, a seventh 'house', 'girl', a tenth 'way' (at its first letter).");
        fails("shoe 1 1 1;  shoe 1 1 1;", 3, 13);
        fails("noon 1;  noon 1;", 3, 9);
        fails("house 0;girl 0 1 0 0;she 0;  she 0;", 3, 29);
        fails(SIX_HOUSES + "  house 0;", 3, 50);
        fails("house 0;" + SIX_GIRLS + "  girl 0 1 0 0;", 3, 88);
        fails(SIX_HOUSES + NINE_WAYS + "  way 2 3;", 3, 122);
        // it is the word alone that is too many: nothing behind it is looked at, and no other word is barred
        fails("shoe 1 1 1;shoe", 3, 11);
        fails("noon 1;shoe 1 1 1;noon", 3, 18);
        fails(SIX_HOUSES + "house", 3, 48);
        fails("house 0;" + SIX_GIRLS + "girl", 3, 86);
        fails(SIX_HOUSES + NINE_WAYS + "way", 3, 120);
        fails("house 0;girl 0 1 0 0;she 0;she", 3, 27);
        stands(SIX_HOUSES + NINE_WAYS + "girl 0 1 0 0;", 1);
        stands("shoe 1 1 1;noon 1;house 0;girl 0 1 0 0;she 0;house 0;girl 1 1 0 0;", 2);
    }

    private static void twice() {
        DUE.says("4 B like A, two again, 'gait' of a GIRL again (at the B, the G);");
        fails("house 0;house 0;way 1 1;", 4, 22);
        fails("house 0;house 0;way 1   1;", 4, 24);
        fails("house 0;house 0;way 0 1;way 0   1;", 4, 32);
        fails("house 0;house 0;way 0 1;way 1   0;", 4, 32);
        fails("house 0;girl 0 1 0 0;gait 0 a;gait   0 a;", 4, 37);
        fails("house 0;girl 0 1 0 0;gait0a;gait0a;", 4, 32);
    }

    private static void otherRows() {
        DUE.says("a ROW with other letters, of seven or more (at its first).");
        String girl = "house 0;girl 0 1 0 0;gait 0 ";
        fails(girl + "d;", 4, 28);
        fails(girl + "z;", 4, 28);
        fails(girl + "abcabd;", 4, 28);
        fails(girl + "dabcab;", 4, 28);
        fails(girl + "   abd;", 4, 31);
        fails(girl + "aaaaaaa;", 4, 28);
        fails(girl + "aaaaaaaa;", 4, 28);
        fails(girl + "aaaaaaa", 4, 28);
        fails(girl + "she;", 4, 28);
        stands(girl + "aaaaaa;", 1);
        fails(girl + "A;", 1, 28);
        fails(girl + "`;", 1, 28);
        fails(girl + "{;", 1, 28);
    }

    // ---- list and fault

    private static void listed() {
        DUE.says("how many GIRLS;");
        stands("", 0);
        stands("house 0;", 0);
        stands("house 0;girl 0 1 0 0;", 1);
        stands("house 0;" + SIX_GIRLS, 6);
        DUE.says("-10 less the number of its FAULT");
        DUE.is("fault 1", Due.tell(new SlipperFits(), "x"), -11);
        DUE.is("fault 2", Due.tell(new SlipperFits(), "noon 24;"), -12);
        DUE.is("fault 3", Due.tell(new SlipperFits(), "noon 1;noon 1;"), -13);
        DUE.is("fault 4", Due.tell(new SlipperFits(), "house 0;way 0 0;"), -14);
    }

    private static void textIsEmpty() {
        DUE.says("THE TEXT (it is empty then) becomes THE LIST");
        SlipperFits x = Due.told("house 0;girl 0 1 0 0;");
        DUE.is("told(3) behind a list", x.told(3), 0);
        DUE.is("feed behind a list", x.feed(' '), 1);
        DUE.is("list() of what came since", x.list(), 0);
        DUE.is("told(0) of it", x.told(0), 0);
        SlipperFits y = new SlipperFits();
        Due.tell(y, "house 0;girl 0 1 0 0;x");
        DUE.is("told(3) behind a fault", y.told(3), 0);
        DUE.is("feed behind a fault", y.feed(' '), 1);
        DUE.is("list() of what came since", y.list(), 0);
    }

    private static SlipperFits busy() {
        SlipperFits x = Due.told("shoe 40 2 1;noon 9;house 1;house 2;way 0 1;girl 0 37 1 1;girl 1 38 2 2;she 1;gait 0 bca;gait 1 c;");
        x.seed(77);
        x.attempt();
        x.go(1);
        x.keep(0);
        x.attempt();
        x.soak(0);
        x.pad(1, 5);
        x.move(0, 1);
        x.see(3, true);
        x.step(1);
        x.write(5, 1, true);
        x.keep(1);
        return x;
    }

    private static void begunAnew() {
        SlipperFits x = busy();
        DUE.holds("all of it stands ahead of the list",
            x.told(9) == 1 && x.told(10) == 1 && x.told(11) == 2 && x.told(13) == 1 && x.told(14) == 1 && x.told(15) == 1
            && x.told(16) == 1 && x.told(17) == 1 && x.girl(0, 5) == 4 && x.girl(1, 4) == 5);
        Due.tell(x, "house 1;house 2;girl 0 37 1 1;girl 1 38 2 2;");
        DUE.says("(HOUR 0, nobody PADDED, SOAKED, MARRIED, FOUND, no TRIES;");
        DUE.is("HOUR", x.told(9), 0);
        DUE.is("THE HERALD", x.told(10), 0);
        DUE.is("PADDED", x.girl(1, 4), 0);
        DUE.is("SOAKED", x.girl(0, 5), 0);
        DUE.is("FOOT at the hour in which she had soaked", x.foot(0, 1), 38);
        DUE.is("MARRIED", x.told(13), 0);
        DUE.is("FOUND", x.told(14), 0);
        DUE.is("TRIES", x.told(11), 0);
        DUE.is("where she is told to be", x.girl(0, 0), 0);
        DUE.is("S untold again", x.told(4), 30);
        DUE.is("T untold again", x.told(5), 1);
        DUE.is("W untold again", x.told(6), 0);
        DUE.is("noon untold again", x.told(7), 12);
        DUE.is("ways untold again", x.told(1) + x.house(0, 1) + x.house(1, 1), 0);
        DUE.is("gait untold again", x.girl(0, 8), 1);
        DUE.is("she untold again", x.told(8), 0);
        DUE.says("nothing SEEN, no STEPS, no BOOK;");
        DUE.is("SEEN", x.told(15), 0);
        DUE.is("STEPS", x.told(16), 0);
        DUE.is("BOOK", x.told(17), 0);
        DUE.is("tear()", x.tear(), 0);
        x.step(0);
        DUE.is("walker(): both ROWS are a", x.walker(), 3);
        DUE.says("IMAGES are gone;");
        DUE.is("goBack(0)", x.goBack(0), NOT);
        DUE.is("goBack(1)", x.goBack(1), NOT);
        DUE.says("THE SEED stays):");
        DUE.is("seed", x.seed(0), 77);
    }

    private static void asItWas() {
        DUE.says("(all is as it was).");
        String[] faulty = {"noon 1;house 0;girl 0 9 9 8;gait 0 ccc;x", "shoe 1 1 1;noon 99;", "shoe 1 1 1;noon 1;house 5;noon",
            "house 3;house 3;way 0 1;girl 0 9 9 8;way 1 0;"};
        for (int i = 0; i < faulty.length; i++) {
            SlipperFits untouched = busy();
            SlipperFits x = busy();
            DUE.is("list() of " + faulty[i], Due.tell(x, faulty[i]), -11 - i);
            DUE.holds("as it was behind " + faulty[i], Due.stateOf(x).equals(Due.stateOf(untouched)));
            for (int image = 0; image < 2; image++) {
                DUE.is("goBack(" + image + ")", x.goBack(image), untouched.goBack(image));
                DUE.holds("image " + image + " as it was", Due.stateOf(x).equals(Due.stateOf(untouched)));
            }
        }
    }

    private static void faultOfTheLatest() {
        DUE.says("The byte of the FAULT of the latest list(); NONE.");
        SlipperFits x = new SlipperFits();
        DUE.is("fault() ahead of any list", x.fault(), NONE);
        Due.tell(x, "noon 24;");
        DUE.is("fault()", x.fault(), 5);
        DUE.is("fault() again", x.fault(), 5);
        x.feed('h');
        DUE.is("fault() with other bytes fed", x.fault(), 5);
        x.list();
        DUE.is("fault() of the next list", x.fault(), 0);
        x.list();
        DUE.is("fault() behind a list without one", x.fault(), NONE);
    }
}
