import java.util.Random;

/** Long runs of calls, the same each time, against Plain: ordinary arguments mostly, wrong ones now and then. */
public final class AgainstPlainTest {
    private static final int OBJECTS = 2500;
    private static final int CALLS = 512;
    private static final int CHANGING = 34;
    private static final Due DUE = new Due("AgainstPlainTest");
    private static Random random;

    public static void main(String[] args) {
        for (int i = 0; i < OBJECTS; i++) {
            random = new Random(i);
            run(i);
        }
        for (int i = 0; i < 30000; i++) {
            random = new Random(-1L - i);
            SlipperFits x = new SlipperFits();
            Plain p = new Plain();
            tell("text " + i, x, p, randomText(3));
        }
        DUE.end();
    }

    private static int upTo(int n) {
        return random.nextInt(n + 1);
    }

    private static boolean in(int of) {
        return random.nextInt(of) == 0;
    }

    // ---- texts

    /** With a part of wrong ones by how often a number is off, a clause comes again, a byte is other. */
    private static String randomText(int wrongness) {
        StringBuilder text = new StringBuilder();
        int houses = 1 + upTo(5);
        int girls = 1 + upTo(5);
        int glass = 20 + upTo(15);
        if (!in(5)) {
            clause(text, "shoe", off(wrongness, glass), off(wrongness, upTo(in(3) ? 9 : 3)), off(wrongness, upTo(in(3) ? 99 : 4)));
        }
        if (in(2)) {
            clause(text, "noon", off(wrongness, upTo(23)));
        }
        for (int h = 0; h < houses; h++) {
            clause(text, "house", off(wrongness, upTo(in(3) ? 9 : 3)));
        }
        int ways = upTo(9);
        for (int i = 0; i < 3 * ways; i++) {
            int a = upTo(houses - 1);
            int b = upTo(houses - 1);
            boolean told = text.indexOf("way " + a + " " + b + ";") >= 0 || text.indexOf("way " + b + " " + a + ";") >= 0;
            boolean full = text.toString().split("way").length > 9;
            if (a != b && !told && !full || wrongness > 0 && in(60)) {
                clause(text, "way", a, off(wrongness, b));
            }
        }
        for (int g = 0; g < girls; g++) {
            clause(text, "girl", off(wrongness, upTo(houses - 1)), off(wrongness, Math.max(1, glass - upTo(8) + upTo(3))), off(wrongness, upTo(in(3) ? 9 : 3)), off(wrongness, upTo(8)));
        }
        for (int g = 0; g < girls; g++) {
            if (in(2)) {
                text.append("gait ").append(off(wrongness, g)).append(in(2) ? " " : "");
                for (int i = 1 + upTo(in(9) ? wrongness + 5 : 3); i > 0; i--) {
                    text.append((char) ('a' + upTo(2) + (wrongness > 0 && in(40) ? 1 : 0)));
                }
                text.append(';');
            }
        }
        if (!in(3)) {
            clause(text, "she", off(wrongness, upTo(girls - 1)));
        }
        return mutated(text, wrongness);
    }

    private static int off(int wrongness, int value) {
        return wrongness > 0 && in(60) ? value + upTo(in(4) ? 2000 : 10) : value;
    }

    private static void clause(StringBuilder text, String word, int... numbers) {
        text.append(word);
        for (int i = 0; i < numbers.length; i++) {
            text.append(i > 0 || !in(5) ? " " : "").append(in(20) ? "0" : "").append(numbers[i]);
        }
        text.append(in(8) ? " ;" : ";").append(in(8) ? "  " : "");
    }

    private static String mutated(StringBuilder text, int wrongness) {
        String signs = " ;0123456789abcdefghijklmnopqrstuvwxyzA\n-";
        for (int i = 0; i < wrongness; i++) {
            int at = upTo(Math.max(0, text.length() - 1));
            if (text.length() > 0 && in(4)) {
                text.deleteCharAt(at);
            } else if (in(4)) {
                text.insert(at, signs.charAt(upTo(signs.length() - 1)));
            } else if (text.length() > 0 && in(6)) {
                text.setCharAt(at, (char) upTo(255));
            } else if (in(8)) {
                text.insert(0, new String[] {"shoe 30 1 1;", "noon 3;", "house 1;", "way 0 1;", "girl 0 1 1 1;"}[upTo(4)]);
            } else if (in(8)) {
                text.setLength(at);
            }
        }
        return text.toString();
    }

    private static int tell(String run, SlipperFits x, Plain p, String text) {
        for (int i = 0; i < text.length(); i++) {
            same(run, "feed", x.feed(text.charAt(i)), p.feed(text.charAt(i)));
        }
        same(run, "list() of " + text, x.list(), p.list());
        same(run, "fault() of " + text, x.fault(), p.fault());
        return text.length() + 2;
    }

    // ---- calls

    private static void same(String run, String call, int got, int want) {
        DUE.is(run + ": " + call, got, want);
    }

    private static void run(int number) {
        SlipperFits x = new SlipperFits();
        Plain p = new Plain();
        String run = "run " + number;
        int calls = tell(run, x, p, randomText(in(8) ? 1 : 0));
        int again = in(3) ? 250 + upTo(60) : CALLS;
        for (; calls < CALLS; calls++) {
            if (calls > again) {
                calls = tellAgain(run, x, p, calls);
                again = CALLS;
            }
            call(run, x, p, random.nextInt(CHANGING));
        }
    }

    /** Another list, if it can be told within the calls for which an object is used. */
    private static int tellAgain(String run, SlipperFits x, Plain p, int calls) {
        String text = randomText(in(2) ? 2 : 0);
        boolean room = calls + text.length() + 2 < CALLS;
        return room ? calls + tell(run, x, p, text) : calls;
    }

    private static int girl(Plain p) {
        return in(20) ? new int[] {-1, 6, 7, Integer.MIN_VALUE, Integer.MAX_VALUE}[upTo(4)] : upTo(Math.max(0, p.told(2) - (in(9) ? 0 : 1)));
    }

    private static int houseOf(Plain p) {
        return in(20) ? new int[] {-1, 6, 7, Integer.MIN_VALUE, Integer.MAX_VALUE}[upTo(4)] : upTo(Math.max(0, p.told(0) - (in(9) ? 0 : 1)));
    }

    private static int from(int low, int high) {
        return in(20) ? new int[] {low - 1, high + 1, Integer.MIN_VALUE, Integer.MAX_VALUE}[upTo(3)] : low + upTo(high - low);
    }

    private static void call(String run, SlipperFits x, Plain p, int which) {
        int g = girl(p);
        int q = girl(p);
        int h = houseOf(p);
        int hour = from(0, 23);
        boolean fitted = in(2);
        int n;
        switch (which) {
            case 0: n = in(9) ? from(0, 255) : ' '; same(run, "feed(" + n + ")", x.feed(n), p.feed(n)); break;
            case 1: n = from(0, 17); same(run, "told(" + n + ")", x.told(n), p.told(n)); break;
            case 2: n = from(0, 2); same(run, "house(" + h + ", " + n + ")", x.house(h, n), p.house(h, n)); break;
            case 3: n = from(0, 8); same(run, "girl(" + g + ", " + n + ")", x.girl(g, n), p.girl(g, n)); break;
            case 4: n = in(2) ? from(0, 99999) : p.told(9) + upTo(6); same(run, "foot(" + g + ", " + n + ")", x.foot(g, n), p.foot(g, n)); break;
            case 5: n = in(3) ? from(1, 999) : 1 + upTo(9); same(run, "pass(" + n + ")", x.pass(n), p.pass(n)); break;
            case 6: same(run, "go(" + h + ")", x.go(h), p.go(h)); break;
            case 7: same(run, "attempt()", x.attempt(), p.attempt()); break;
            default: more(run, x, p, new int[] {which, g, q, h, hour}, fitted);
        }
    }

    private static void more(String run, SlipperFits x, Plain p, int[] of, boolean fitted) {
        int g = of[1];
        int q = of[2];
        int h = of[3];
        int hour = of[4];
        int n;
        switch (of[0]) {
            case 8: same(run, "soak(" + g + ")", x.soak(g), p.soak(g)); break;
            case 9: n = from(0, 5); same(run, "pad(" + g + ", " + n + ")", x.pad(g, n), p.pad(g, n)); break;
            case 10: same(run, "move(" + g + ", " + h + ")", x.move(g, h), p.move(g, h)); break;
            case 11: n = from(1, in(2) ? 9 : 99); same(run, "drift(" + n + ")", x.drift(n), p.drift(n)); break;
            case 12: case 13: n = in(3) ? -1 : from(0, 9); same(run, "round(" + g + ", " + n + ")", x.round(g, n), p.round(g, n)); break;
            case 14: n = from(1, 2); same(run, "chase(" + n + ")", x.chase(n), p.chase(n)); break;
            case 15: same(run, "fewest()", x.fewest(), p.fewest()); break;
            case 16: n = from(0, 1); same(run, "rule(" + g + ", " + n + ")", x.rule(g, n), p.rule(g, n)); break;
            case 17: n = from(0, 23); same(run, "passes(" + g + ", " + hour + ", " + n + ")", x.passes(g, hour, n), p.passes(g, hour, n)); break;
            case 18: same(run, "apart(" + g + ", " + q + ")", x.apart(g, q), p.apart(g, q)); break;
            case 19: same(run, "worn(" + g + ", " + q + ", " + hour + ")", x.worn(g, q, hour), p.worn(g, q, hour)); break;
            case 20: case 21: n = from(0, 2); same(run, "sisters(" + n + ", " + g + ")", x.sisters(n, g), p.sisters(n, g)); break;
            case 22: n = from(0, 1); same(run, "odds(" + g + ", " + hour + ", " + n + ")", x.odds(g, hour, n), p.odds(g, hour, n)); break;
            case 23: same(run, "see(" + hour + ", " + fitted + ")", x.see(hour, fitted), p.see(hour, fitted)); break;
            case 24: same(run, "could()", x.could(), p.could()); break;
            case 25: same(run, "next()", x.next(), p.next()); break;
            case 26: n = from(0, 2); same(run, "step(" + n + ")", x.step(n), p.step(n)); break;
            case 27: same(run, "walker()", x.walker(), p.walker()); break;
            case 28: n = from(0, 99999); same(run, "write(" + n + ", " + g + ", " + fitted + ")", x.write(n, g, fitted), p.write(n, g, fitted)); break;
            case 29:
                if (in(5)) {
                    same(run, "tear()", x.tear(), p.tear());
                }
                break;
            case 30: same(run, "judge()", x.judge(), p.judge()); break;
            case 31: n = in(2) ? from(0, 99999) : upTo(2147483646); same(run, "seed(" + n + ")", x.seed(n), p.seed(n)); break;
            case 32: n = from(0, 1); same(run, "keep(" + n + ")", x.keep(n), p.keep(n)); break;
            default: n = from(0, 1); same(run, "goBack(" + n + ")", x.goBack(n), p.goBack(n));
        }
    }
}
