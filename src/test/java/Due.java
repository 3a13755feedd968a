import java.util.function.ToIntFunction;

/** Counts the answers that are not the ones that are due; end() leaves with exit code 1 if there was one. */
final class Due {
    private final String name;
    private String words = "";
    private int asked;
    private int wrong;

    Due(String name) {
        this.name = name;
    }

    /** The document's words that the next calls are a test of; SentencesTest looks that it has them. */
    void says(String itsWords) {
        words = " \"" + itsWords + "\":";
    }

    void is(String call, int got, int want) {
        asked++;
        if (got != want) {
            wrong++;
            System.out.println(name + ":" + words + " " + call + " answered " + got + ", due is " + want);
        }
    }

    void holds(String what, boolean so) {
        is(what, so ? 1 : 0, 1);
    }

    void end() {
        System.out.println(name + ": " + asked + " asked, " + wrong + " wrong");
        if (wrong != 0) {
            System.exit(1);
        }
    }

    /** The answers from one number to another, with the refusal that is due below, above, and far off. */
    void bounds(String call, int least, int most, int refusal, ToIntFunction<Integer> answer) {
        for (int n : new int[] {Integer.MIN_VALUE, least - 1}) {
            is(call + " of " + n, answer.applyAsInt(n), refusal);
        }
        for (int n : new int[] {least, least + 1, most - 1, most}) {
            holds(call + " of " + n + " is not refused", answer.applyAsInt(n) > SlipperFits.UNKNOWN);
        }
        for (int n : most == Integer.MAX_VALUE ? new int[] {} : new int[] {most + 1, Integer.MAX_VALUE}) {
            is(call + " of " + n, answer.applyAsInt(n), refusal);
        }
    }

    static int tell(SlipperFits x, String text) {
        for (int i = 0; i < text.length(); i++) {
            x.feed(text.charAt(i));
        }
        return x.list();
    }

    static SlipperFits told(String text) {
        SlipperFits x = new SlipperFits();
        int answer = tell(x, text);
        if (answer < 0) {
            throw new IllegalStateException("the test's own text has fault " + answer + " at " + x.fault() + ": " + text);
        }
        return x;
    }

    /** All that the asking calls tell of an object but for the images, to see that nothing was changed. */
    static String stateOf(SlipperFits x) {
        StringBuilder all = new StringBuilder();
        for (int what = 0; what < 18; what++) {
            all.append(x.told(what)).append(' ');
        }
        int houses = x.told(0);
        int girls = x.told(2);
        for (int h = 0; h < houses; h++) {
            for (int what = 0; what < 3; what++) {
                all.append(x.house(h, what)).append(' ');
            }
        }
        for (int g = 0; g < girls; g++) {
            for (int what = 0; what < 9; what++) {
                all.append(x.girl(g, what)).append(' ');
            }
        }
        all.append(x.could()).append(' ').append(x.walker()).append(' ').append(x.judge());
        int seed = x.seed(0);
        x.seed(seed);
        return all.append(' ').append(seed).toString();
    }
}
