/** Counts the answers that are not the ones that are due; end() leaves with exit code 1 if there was one. */
final class Due {
    private final String name;
    private int asked;
    private int wrong;

    Due(String name) {
        this.name = name;
    }

    void is(String call, int got, int want) {
        asked++;
        if (got != want) {
            wrong++;
            System.out.println(name + ": " + call + " answered " + got + ", due is " + want);
        }
    }

    void holds(String what, boolean so) {
        is(what, so ? 1 : 0, 1);
    }

    void end() {
        System.out.println(name + ": " + asked + " asked, " + wrong + " wrong");
        if (wrong != 0) {
            System.exit(1);
        }
    }

    static int tell(SlipperFits x, String text) {
        for (int i = 0; i < text.length(); i++) {
            x.feed(text.charAt(i));
        }
        return x.list();
    }

    static SlipperFits told(String text) {
        SlipperFits x = new SlipperFits();
        int answer = tell(x, text);
        if (answer < 0) {
            throw new IllegalStateException("the test's own text has fault " + answer + " at " + x.fault() + ": " + text);
        }
        return x;
    }

    /** All that the asking calls tell of an object, to see that nothing was changed. */
    static String stateOf(SlipperFits x) {
        StringBuilder all = new StringBuilder();
        for (int what = 0; what < 18; what++) {
            all.append(x.told(what)).append(' ');
        }
        for (int h = 0; h < 6; h++) {
            for (int what = 0; what < 3; what++) {
                all.append(x.house(h, what)).append(' ');
            }
        }
        for (int g = 0; g < 6; g++) {
            for (int what = 0; what < 9; what++) {
                all.append(x.girl(g, what)).append(' ');
            }
        }
        all.append(x.could()).append(' ').append(x.walker()).append(' ').append(x.judge());
        int seed = x.seed(0);
        x.seed(seed);
        return all.append(' ').append(seed).toString();
    }
}
