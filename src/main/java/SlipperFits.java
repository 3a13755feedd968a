/** Whose foot the slipper fits. The project's document says what each call answers; README.md how to use it. */
public final class SlipperFits {
    public static final int NONE = -1, UNKNOWN = -1000000001, OUTSIDE = -1000000002, NOT = -1000000003, FULL = -1000000004;

    private static final int MOST_BYTES = 300;
    private static final int MOST_HOUSES = 6;
    private static final int MOST_WAYS = 9;
    private static final int MOST_GIRLS = 6;
    private static final int MOST_LETTERS = 6;
    private static final int MOST_FIGURES = 3;
    private static final int MOST_TRIES = 9999;
    private static final int MOST_PADDING = 5;
    private static final int MOST_SEEN = 20;
    private static final int MOST_STEPS = 12;
    private static final int MOST_LINES = 30;
    private static final int LAST_HOUR = 99999;
    private static final int DAY = 24;
    private static final int LONGEST_ROUND = 48;
    private static final int MOST_SISTER_ROUNDS = 30;
    private static final int IMAGES = 2;
    private static final int EIGHTHS = 8;

    /** Far enough ahead of hour 0 that no hour that is asked for is still wet by it. */
    private static final int NEVER = -1000;
    private static final int WET_HOURS = 4;
    private static final int SHRINKS_BY = 3;

    private final Reader reader;
    private final Tale draft;
    private final Tale tale;
    private final Night night;
    private final Night[] images;
    private int kept;
    private final Measure measure;
    private final Notes notes;
    private final Tour tour;
    private final Hunt hunt;
    private final Contest contest;

    public SlipperFits() {
        reader = new Reader();
        draft = new Tale();
        tale = new Tale();
        night = new Night();
        images = new Night[IMAGES];
        for (int i = 0; i < IMAGES; i++) {
            images[i] = new Night();
        }
        kept = 0;
        measure = new Measure(tale, night);
        notes = new Notes();
        tour = new Tour(measure);
        hunt = new Hunt(tale);
        contest = new Contest(measure);
    }

    // ---- the list

    public int feed(int c) {
        if (c < 0 || c > 255) {
            return OUTSIDE;
        }
        if (reader.length >= MOST_BYTES) {
            return FULL;
        }
        reader.text[reader.length] = c;
        reader.length++;
        return reader.length;
    }

    public int list() {
        if (!reader.readInto(draft)) {
            return -10 - reader.faultNumber;
        }
        tale.copyFrom(draft);
        night.beginWith(tale);
        notes.forgetAll();
        kept = 0;
        return tale.girls;
    }

    public int fault() {
        return reader.faultByte;
    }

    public int told(int what) {
        if (what < 0 || what > 17) {
            return OUTSIDE;
        }
        return what < 9 ? toldByTheList(what) : toldByTheNight(what);
    }

    private int toldByTheList(int what) {
        switch (what) {
            case 0: return tale.houses;
            case 1: return tale.wayCount;
            case 2: return tale.girls;
            case 3: return reader.length;
            case 4: return tale.shoe;
            case 5: return tale.spare;
            case 6: return tale.wear;
            case 7: return tale.noon;
            default: return tale.girls == 0 ? NONE : tale.sheIs;
        }
    }

    private int toldByTheNight(int what) {
        switch (what) {
            case 9: return night.hour;
            case 10: return tale.houses == 0 ? NONE : night.herald;
            case 11: return night.tries;
            case 12: return measure.glassNow();
            case 13: return night.married;
            case 14: return night.found ? 1 : 0;
            case 15: return notes.seenCount;
            case 16: return notes.stepCount;
            default: return notes.lineCount;
        }
    }

    public int house(int h, int what) {
        if (!tale.hasHouse(h)) {
            return UNKNOWN;
        }
        switch (what) {
            case 0: return tale.stairs[h];
            case 1: return tale.ways[h];
            case 2: return girlsIn(h);
            default: return OUTSIDE;
        }
    }

    private int girlsIn(int h) {
        int set = 0;
        for (int g = 0; g < tale.girls; g++) {
            if (night.home[g] == h) {
                set |= 1 << g;
            }
        }
        return set;
    }

    public int girl(int g, int what) {
        if (!tale.hasGirl(g)) {
            return UNKNOWN;
        }
        switch (what) {
            case 0: return night.home[g];
            case 1: return tale.length[g];
            case 2: return tale.swell[g];
            case 3: return tale.chance[g];
            case 4: return night.padding[g];
            case 5: return measure.wetHoursLeft(g);
            case 6: return measure.footThen(g, night.hour);
            case 7: return measure.fitsThen(g, night.hour) ? 1 : 0;
            case 8: return tale.gaitLength[g];
            default: return OUTSIDE;
        }
    }

    public int foot(int g, int hour) {
        if (!tale.hasGirl(g)) {
            return UNKNOWN;
        }
        if (hour < 0 || hour > LAST_HOUR) {
            return OUTSIDE;
        }
        return measure.footThen(g, hour);
    }

    // ---- hours

    public int pass(int n) {
        if (n < 1 || n > 999) {
            return OUTSIDE;
        }
        night.hour += n;
        return night.hour;
    }

    public int go(int h) {
        if (!tale.hasHouse(h)) {
            return UNKNOWN;
        }
        if (!has(tale.waysFrom(night.herald), h)) {
            return NOT;
        }
        night.herald = h;
        night.hour++;
        return night.hour;
    }

    public int attempt() {
        if (tale.houses == 0) {
            return NOT;
        }
        int fitted = 0;
        for (int g = 0; g < tale.girls; g++) {
            if (night.home[g] == night.herald && !has(night.married, g) && tryOn(g)) {
                fitted |= 1 << g;
            }
        }
        return fitted;
    }

    /** One TRY: the glass counts as it is ahead of it, so the wear comes last. */
    private boolean tryOn(int g) {
        boolean fitted = measure.fitsThen(g, night.hour);
        if (fitted && g == tale.sheIs) {
            night.found = true;
        } else if (fitted) {
            night.married |= 1 << g;
        }
        night.tries = Math.min(night.tries + 1, MOST_TRIES);
        return fitted;
    }

    public int soak(int g) {
        if (!tale.hasGirl(g)) {
            return UNKNOWN;
        }
        int was = measure.isWet(g, night.hour) ? 1 : 0;
        night.soakedAt[g] = night.hour;
        return was;
    }

    public int pad(int g, int n) {
        if (!tale.hasGirl(g)) {
            return UNKNOWN;
        }
        if (n < 0 || n > MOST_PADDING) {
            return OUTSIDE;
        }
        int was = night.padding[g];
        night.padding[g] = n;
        return was;
    }

    public int move(int g, int h) {
        if (!tale.hasGirl(g) || !tale.hasHouse(h)) {
            return UNKNOWN;
        }
        int was = night.home[g];
        night.home[g] = h;
        return was;
    }

    public int drift(int n) {
        if (n < 1 || n > 99) {
            return OUTSIDE;
        }
        if (!tale.hasGirl(tale.sheIs)) {
            return NOT;
        }
        for (int i = 0; i < n; i++) {
            sheWanders();
            night.hour++;
            someoneMaySoak();
        }
        return night.home[tale.sheIs];
    }

    private void sheWanders() {
        int from = night.home[tale.sheIs];
        int ways = tale.waysFrom(from);
        int i = night.draw(Integer.bitCount(ways) + 1);
        night.home[tale.sheIs] = memberOf(ways, i, from);
    }

    /** The i-th of a SET of HOUSES, or what is given for it if there are fewer. */
    private static int memberOf(int set, int i, int otherwise) {
        int left = i;
        for (int h = 0; h < MOST_HOUSES; h++) {
            if (has(set, h)) {
                if (left == 0) {
                    return h;
                }
                left--;
            }
        }
        return otherwise;
    }

    private void someoneMaySoak() {
        if (night.draw(6) == 0) {
            int g = night.draw(tale.girls);
            if (tale.hasGirl(g)) {
                night.soakedAt[g] = night.hour;
            }
        }
    }

    // ---- tried

    public int round(int g, int i) {
        if (!tale.hasGirl(g)) {
            return UNKNOWN;
        }
        int hours = tour.fewestHours(g);
        if (i == NONE || hours == NONE) {
            return hours;
        }
        return i < 0 || i > hours ? NONE : tour.houseBehind(i, hours);
    }

    public int chase(int k) {
        if (k < 1 || k > 2) {
            return OUTSIDE;
        }
        if (tale.houses == 0) {
            return NOT;
        }
        return hunt.fewestTurns(k == 1);
    }

    public int fewest() {
        if (tale.houses == 0) {
            return NONE;
        }
        if (hunt.fewestTurns(true) != NONE) {
            return 1;
        }
        return hunt.fewestTurns(false) != NONE ? 2 : NONE;
    }

    public int rule(int g, int what) {
        if (!tale.hasGirl(g)) {
            return UNKNOWN;
        }
        if (what < 0 || what > 1) {
            return OUTSIDE;
        }
        for (int a = 0; a < DAY; a++) {
            for (int b = a + 1; b < DAY; b++) {
                if (isRule(g, a, b)) {
                    return what == 0 ? a : b;
                }
            }
        }
        return NONE;
    }

    private boolean isRule(int g, int a, int b) {
        if (!measure.fitsBare(g, a) || !measure.fitsBare(g, b)) {
            return false;
        }
        for (int q = 0; q < tale.girls; q++) {
            if (q != g && measure.leastPadding(q, a, b) != NONE) {
                return false;
            }
        }
        return true;
    }

    public int passes(int g, int a, int b) {
        if (!tale.hasGirl(g)) {
            return UNKNOWN;
        }
        if (!isHourOfDay(a) || !isHourOfDay(b)) {
            return OUTSIDE;
        }
        return measure.leastPadding(g, a, b);
    }

    public int apart(int g, int q) {
        if (!areTwoGirls(g, q)) {
            return UNKNOWN;
        }
        return measure.dryFitHours(g) ^ measure.dryFitHours(q);
    }

    public int worn(int g, int q, int hour) {
        if (!areTwoGirls(g, q)) {
            return UNKNOWN;
        }
        if (!isHourOfDay(hour)) {
            return OUTSIDE;
        }
        return measure.fewestTries(measure.dryFoot(g, hour), measure.dryFoot(q, hour));
    }

    private boolean areTwoGirls(int g, int q) {
        return tale.hasGirl(g) && tale.hasGirl(q) && g != q;
    }

    public int sisters(int what, int g) {
        if (what == 2 && !tale.hasGirl(g)) {
            return UNKNOWN;
        }
        if (what < 0 || what > 2) {
            return OUTSIDE;
        }
        int rounds = contest.play();
        if (what == 0) {
            return rounds;
        }
        return what == 1 ? contest.winner() : contest.chosen[g];
    }

    public int odds(int g, int hour, int part) {
        if (!tale.hasGirl(g)) {
            return UNKNOWN;
        }
        if (!isHourOfDay(hour) || part < 0 || part > 1) {
            return OUTSIDE;
        }
        int above = measure.eighthsThatFit(g, hour);
        int below = EIGHTHS;
        for (int halved = 0; halved < 3 && above % 2 == 0; halved++) {
            above /= 2;
            below /= 2;
        }
        return part == 0 ? above : below;
    }

    // ---- what was seen

    public int see(int hour, boolean fitted) {
        if (!isHourOfDay(hour)) {
            return OUTSIDE;
        }
        if (notes.seenCount >= MOST_SEEN) {
            return FULL;
        }
        notes.seenHour[notes.seenCount] = hour;
        notes.seenFitted[notes.seenCount] = fitted;
        notes.seenCount++;
        return notes.seenCount;
    }

    public int could() {
        return whoCould();
    }

    private int whoCould() {
        int set = 0;
        for (int g = 0; g < tale.girls; g++) {
            if (allSeenIsSo(g)) {
                set |= 1 << g;
            }
        }
        return set;
    }

    private boolean allSeenIsSo(int g) {
        for (int i = 0; i < notes.seenCount; i++) {
            if (measure.fitsBare(g, notes.seenHour[i]) != notes.seenFitted[i]) {
                return false;
            }
        }
        return true;
    }

    public int next() {
        int who = whoCould();
        int all = Integer.bitCount(who);
        int best = NONE;
        int leastGreaterPart = all;
        for (int hour = 0; hour < DAY; hour++) {
            int fitting = fittingOf(who, hour);
            int greaterPart = Math.max(fitting, all - fitting);
            if (greaterPart < leastGreaterPart) {
                leastGreaterPart = greaterPart;
                best = hour;
            }
        }
        return best;
    }

    private int fittingOf(int who, int hour) {
        int fitting = 0;
        for (int g = 0; g < tale.girls; g++) {
            if (has(who, g) && measure.fitsBare(g, hour)) {
                fitting++;
            }
        }
        return fitting;
    }

    public int step(int l) {
        if (l < 0 || l > 2) {
            return OUTSIDE;
        }
        if (notes.stepCount >= MOST_STEPS) {
            return FULL;
        }
        notes.steps[notes.stepCount] = l;
        notes.stepCount++;
        return notes.stepCount;
    }

    public int walker() {
        int set = 0;
        for (int g = 0; g < tale.girls; g++) {
            if (couldWalk(g)) {
                set |= 1 << g;
            }
        }
        return set;
    }

    private boolean couldWalk(int g) {
        for (int begin = 0; begin < tale.gaitLength[g]; begin++) {
            if (walksFrom(g, begin)) {
                return true;
            }
        }
        return false;
    }

    private boolean walksFrom(int g, int begin) {
        for (int i = 0; i < notes.stepCount; i++) {
            if (tale.letterOf(g, begin + i) != notes.steps[i]) {
                return false;
            }
        }
        return true;
    }

    public int write(int hour, int g, boolean fitted) {
        if (!tale.hasGirl(g)) {
            return UNKNOWN;
        }
        if (hour < 0 || hour > LAST_HOUR) {
            return OUTSIDE;
        }
        if (notes.lineCount >= MOST_LINES) {
            return FULL;
        }
        notes.lineHour[notes.lineCount] = hour;
        notes.lineGirl[notes.lineCount] = g;
        notes.lineFitted[notes.lineCount] = fitted;
        notes.lineCount++;
        return notes.lineCount;
    }

    public int tear() {
        int all = notes.seenCount + notes.stepCount + notes.lineCount;
        notes.forgetAll();
        return all;
    }

    public int judge() {
        for (int i = 0; i < notes.lineCount; i++) {
            int foot = measure.dryFoot(notes.lineGirl[i], notes.lineHour[i]);
            if (tale.fitsGlass(foot, tale.shoe) != notes.lineFitted[i]) {
                return i;
            }
        }
        return NONE;
    }

    // ---- images

    public int seed(int v) {
        if (v < 0) {
            return OUTSIDE;
        }
        int was = night.drawnLast;
        night.drawnLast = v;
        return was;
    }

    public int keep(int i) {
        if (i < 0 || i >= IMAGES) {
            return UNKNOWN;
        }
        images[i].copyFrom(night);
        kept |= 1 << i;
        return 1;
    }

    public int goBack(int i) {
        if (i < 0 || i >= IMAGES) {
            return UNKNOWN;
        }
        if (!has(kept, i)) {
            return NOT;
        }
        night.copyFrom(images[i]);
        return 1;
    }

    // ---- small words that several calls use

    private static boolean has(int set, int k) {
        return k >= 0 && k < 32 && (set >> k & 1) == 1;
    }

    private static boolean isHourOfDay(int hour) {
        return hour >= 0 && hour < DAY;
    }

    /** THE LIST: what the text tells, as it was told. */
    private static final class Tale {
        final int[] stairs;
        final int[] ways;
        final int[] home;
        final int[] length;
        final int[] swell;
        final int[] chance;
        final int[] gait;
        final int[] gaitLength;
        int houses;
        int wayCount;
        int girls;
        int shoe;
        int spare;
        int wear;
        int noon;
        int sheIs;

        Tale() {
            stairs = new int[MOST_HOUSES];
            ways = new int[MOST_HOUSES];
            home = new int[MOST_GIRLS];
            length = new int[MOST_GIRLS];
            swell = new int[MOST_GIRLS];
            chance = new int[MOST_GIRLS];
            gait = new int[MOST_GIRLS * MOST_LETTERS];
            gaitLength = new int[MOST_GIRLS];
            beginUntold();
        }

        void beginUntold() {
            houses = 0;
            wayCount = 0;
            girls = 0;
            shoe = 30;
            spare = 1;
            wear = 0;
            noon = 12;
            sheIs = 0;
        }

        void copyFrom(Tale other) {
            System.arraycopy(other.stairs, 0, stairs, 0, MOST_HOUSES);
            System.arraycopy(other.ways, 0, ways, 0, MOST_HOUSES);
            System.arraycopy(other.home, 0, home, 0, MOST_GIRLS);
            System.arraycopy(other.length, 0, length, 0, MOST_GIRLS);
            System.arraycopy(other.swell, 0, swell, 0, MOST_GIRLS);
            System.arraycopy(other.chance, 0, chance, 0, MOST_GIRLS);
            System.arraycopy(other.gait, 0, gait, 0, MOST_GIRLS * MOST_LETTERS);
            System.arraycopy(other.gaitLength, 0, gaitLength, 0, MOST_GIRLS);
            houses = other.houses;
            wayCount = other.wayCount;
            girls = other.girls;
            shoe = other.shoe;
            spare = other.spare;
            wear = other.wear;
            noon = other.noon;
            sheIs = other.sheIs;
        }

        boolean hasHouse(int h) {
            return h >= 0 && h < houses && h < MOST_HOUSES;
        }

        boolean hasGirl(int g) {
            return g >= 0 && g < girls && g < MOST_GIRLS;
        }

        void addHouse(int itsStairs) {
            if (houses < MOST_HOUSES) {
                stairs[houses] = itsStairs;
                ways[houses] = 0;
                houses++;
            }
        }

        void addWay(int a, int b) {
            if (hasHouse(a) && hasHouse(b)) {
                ways[a] |= 1 << b;
                ways[b] |= 1 << a;
                wayCount++;
            }
        }

        /** A girl comes with the gait 'a', which holds as long as no other is told. */
        void addGirl(int h, int itsLength, int itsSwell, int itsChance) {
            if (girls < MOST_GIRLS) {
                home[girls] = h;
                length[girls] = itsLength;
                swell[girls] = itsSwell;
                chance[girls] = itsChance;
                gait[girls * MOST_LETTERS] = 0;
                gaitLength[girls] = 1;
                girls++;
            }
        }

        void setLetter(int g, int i, int letter) {
            if (hasGirl(g) && i >= 0 && i < MOST_LETTERS) {
                gait[g * MOST_LETTERS + i] = letter;
                gaitLength[g] = i + 1;
            }
        }

        /** Her gait's letter behind i others, over and over. */
        int letterOf(int g, int i) {
            if (!hasGirl(g) || i < 0 || gaitLength[g] < 1 || gaitLength[g] > MOST_LETTERS) {
                return NONE;
            }
            return gait[g * MOST_LETTERS + i % gaitLength[g]];
        }

        int waysFrom(int h) {
            return hasHouse(h) ? ways[h] : 0;
        }

        /** Where one can be an hour later: by a way, or staying. */
        int reachedFrom(int h) {
            return hasHouse(h) ? ways[h] | 1 << h : 0;
        }

        boolean isAfternoon(int hour) {
            return Math.floorMod(hour, DAY) >= noon;
        }

        int glassAfter(int tries) {
            return wear < 1 ? shoe : shoe + tries / wear;
        }

        boolean fitsGlass(int foot, int glass) {
            return foot <= glass && glass - foot <= spare;
        }
    }

    /** What goes on from hour to hour, and what an IMAGE keeps. */
    private static final class Night {
        final int[] home;
        final int[] padding;
        final int[] soakedAt;
        int hour;
        int herald;
        int married;
        boolean found;
        int tries;
        int drawnLast;

        Night() {
            home = new int[MOST_GIRLS];
            padding = new int[MOST_GIRLS];
            soakedAt = new int[MOST_GIRLS];
        }

        /** THE SEED is left as it is: it outlives the lists. */
        void beginWith(Tale tale) {
            for (int g = 0; g < MOST_GIRLS; g++) {
                home[g] = tale.home[g];
                padding[g] = 0;
                soakedAt[g] = NEVER;
            }
            hour = 0;
            herald = 0;
            married = 0;
            found = false;
            tries = 0;
        }

        void copyFrom(Night other) {
            System.arraycopy(other.home, 0, home, 0, MOST_GIRLS);
            System.arraycopy(other.padding, 0, padding, 0, MOST_GIRLS);
            System.arraycopy(other.soakedAt, 0, soakedAt, 0, MOST_GIRLS);
            hour = other.hour;
            herald = other.herald;
            married = other.married;
            found = other.found;
            tries = other.tries;
            drawnLast = other.drawnLast;
        }

        int draw(int n) {
            drawnLast = (int) ((drawnLast * 1103515245L + 12345L) & 0x7fffffffL);
            return n < 1 ? 0 : drawnLast / 65536 % n;
        }
    }

    /** What was SEEN, the STEPS, THE BOOK. */
    private static final class Notes {
        final int[] seenHour;
        final boolean[] seenFitted;
        int seenCount;
        final int[] steps;
        int stepCount;
        final int[] lineHour;
        final int[] lineGirl;
        final boolean[] lineFitted;
        int lineCount;

        Notes() {
            seenHour = new int[MOST_SEEN];
            seenFitted = new boolean[MOST_SEEN];
            steps = new int[MOST_STEPS];
            lineHour = new int[MOST_LINES];
            lineGirl = new int[MOST_LINES];
            lineFitted = new boolean[MOST_LINES];
        }

        void forgetAll() {
            seenCount = 0;
            stepCount = 0;
            lineCount = 0;
        }
    }

    /** FOOT and GLASS, with and without PADDING, water and wear. */
    private static final class Measure {
        final Tale tale;
        final Night night;

        Measure(Tale itsTale, Night itsNight) {
            tale = itsTale;
            night = itsNight;
        }

        /** Looks at its indices itself: it is where the calls stand deepest. */
        int unswollenFoot(int g) {
            if (g < 0 || g >= MOST_GIRLS) {
                return 0;
            }
            int h = night.home[g];
            return h < 0 || h >= MOST_HOUSES ? tale.length[g] : tale.length[g] + tale.stairs[h];
        }

        int bareFoot(int g, int hour) {
            int swelling = tale.hasGirl(g) && tale.isAfternoon(hour) ? tale.swell[g] : 0;
            return unswollenFoot(g) + swelling;
        }

        int paddingOf(int g) {
            return tale.hasGirl(g) ? night.padding[g] : 0;
        }

        int dryFoot(int g, int hour) {
            return bareFoot(g, hour) + paddingOf(g);
        }

        int footThen(int g, int hour) {
            int shrunk = isWet(g, hour) ? SHRINKS_BY : 0;
            return Math.max(0, dryFoot(g, hour) - shrunk);
        }

        boolean isWet(int g, int hour) {
            return tale.hasGirl(g) && hour >= night.soakedAt[g] && hour < night.soakedAt[g] + WET_HOURS;
        }

        int wetHoursLeft(int g) {
            return isWet(g, night.hour) ? night.soakedAt[g] + WET_HOURS - night.hour : 0;
        }

        int glassNow() {
            return tale.glassAfter(night.tries);
        }

        boolean fitsThen(int g, int hour) {
            return tale.fitsGlass(footThen(g, hour), glassNow());
        }

        /** The hours of the day, a SET, at which it fits her as now but for water. */
        int dryFitHours(int g) {
            int glass = glassNow();
            int set = 0;
            for (int hour = 0; hour < DAY; hour++) {
                if (tale.fitsGlass(dryFoot(g, hour), glass)) {
                    set |= 1 << hour;
                }
            }
            return set;
        }

        /** Glass that is not worn, no water, no PADDING. */
        boolean fitsBare(int g, int hour) {
            return tale.fitsGlass(bareFoot(g, hour), tale.shoe);
        }

        int leastPadding(int g, int a, int b) {
            int footA = bareFoot(g, a);
            int footB = bareFoot(g, b);
            for (int padding = 0; padding <= MOST_PADDING; padding++) {
                if (tale.fitsGlass(footA + padding, tale.shoe) && tale.fitsGlass(footB + padding, tale.shoe)) {
                    return padding;
                }
            }
            return NONE;
        }

        /** Glass only grows, so the first that is long enough for both is the only one to look at. */
        int fewestTries(int footA, int footB) {
            int longer = Math.max(footA, footB);
            int tries = Math.max(0, longer - tale.shoe) * tale.wear;
            int glass = tale.glassAfter(tries);
            boolean fitsBoth = tale.fitsGlass(footA, glass) && tale.fitsGlass(footB, glass);
            return fitsBoth && tries <= MOST_TRIES ? tries : NONE;
        }

        int eighthsThatFit(int g, int hour) {
            int chance = tale.hasGirl(g) ? tale.chance[g] : 0;
            int unswollen = unswollenFoot(g) + paddingOf(g);
            int eighths = tale.fitsGlass(dryFoot(g, hour), glassNow()) ? chance : 0;
            return tale.fitsGlass(unswollen, glassNow()) ? eighths + EIGHTHS - chance : eighths;
        }
    }

    /** ROUND: the soonest way to a girl while the slipper fits her. */
    private static final class Tour {
        final Measure measure;
        final int[] distance;

        Tour(Measure itsMeasure) {
            measure = itsMeasure;
            distance = new int[MOST_HOUSES];
        }

        int fewestHours(int g) {
            Tale tale = measure.tale;
            Night night = measure.night;
            if (!tale.hasGirl(g) || !tale.hasHouse(night.herald)) {
                return NONE;
            }
            measureDistances(night.home[g]);
            for (int hours = distance[night.herald]; hours <= LONGEST_ROUND; hours++) {
                if (measure.fitsThen(g, night.hour + hours)) {
                    return hours;
                }
            }
            return NONE;
        }

        /** The hours from each HOUSE to the goal, more than any ROUND's where no ways lead. */
        private void measureDistances(int goal) {
            int reached = 1 << goal;
            for (int h = 0; h < MOST_HOUSES; h++) {
                distance[h] = h == goal ? 0 : LONGEST_ROUND + 1;
            }
            for (int hours = 1; hours < MOST_HOUSES; hours++) {
                int frontier = nearTo(reached) & ~reached;
                for (int h = 0; h < MOST_HOUSES; h++) {
                    if (has(frontier, h)) {
                        distance[h] = hours;
                    }
                }
                reached |= frontier;
            }
        }

        private int nearTo(int set) {
            int near = 0;
            for (int h = 0; h < MOST_HOUSES; h++) {
                if (has(set, h)) {
                    near |= measure.tale.waysFrom(h);
                }
            }
            return near;
        }

        /** Where he is behind i of the hours that fewestHours answered last. */
        int houseBehind(int i, int hours) {
            int at = measure.night.herald;
            for (int gone = 1; gone <= i && gone <= LONGEST_ROUND; gone++) {
                at = leastHouseInTime(at, hours - gone);
            }
            return at;
        }

        private int leastHouseInTime(int from, int hoursLeft) {
            int reached = measure.tale.reachedFrom(from);
            for (int h = 0; h < MOST_HOUSES; h++) {
                if (has(reached, h) && distance[h] <= hoursLeft) {
                    return h;
                }
            }
            return from;
        }
    }

    /**
     * CHASE. One herald is told as two who always go together, so that both games are the same.
     * The rows are by the heralds' two HOUSES, and hold SETS of hers from which she is met for sure.
     */
    private static final class Hunt {
        final Tale tale;
        final int[] metTheyToGo;
        final int[] metSheToGo;

        Hunt(Tale itsTale) {
            tale = itsTale;
            metTheyToGo = new int[MOST_HOUSES * MOST_HOUSES];
            metSheToGo = new int[MOST_HOUSES * MOST_HOUSES];
        }

        int fewestTurns(boolean together) {
            begin();
            int mostTurns = MOST_HOUSES * MOST_HOUSES * MOST_HOUSES;
            for (int turns = 0; turns <= mostTurns; turns++) {
                if (meetsAnywhere(together)) {
                    return turns;
                }
                lookHerTurn();
                if (!lookTheirTurn(together)) {
                    return NONE;
                }
            }
            return NONE;
        }

        private void begin() {
            for (int a = 0; a < MOST_HOUSES; a++) {
                for (int b = 0; b < MOST_HOUSES; b++) {
                    metTheyToGo[a * MOST_HOUSES + b] = 1 << a | 1 << b;
                }
            }
        }

        private boolean meetsAnywhere(boolean together) {
            int everywhere = (1 << tale.houses) - 1;
            for (int a = 0; a < tale.houses; a++) {
                for (int b = 0; b < tale.houses; b++) {
                    boolean may = !together || a == b;
                    if (may && metTheyToGo[a * MOST_HOUSES + b] == everywhere) {
                        return true;
                    }
                }
            }
            return false;
        }

        private void lookHerTurn() {
            for (int a = 0; a < tale.houses; a++) {
                for (int b = 0; b < tale.houses; b++) {
                    int pair = a * MOST_HOUSES + b;
                    metSheToGo[pair] = 1 << a | 1 << b | hersWithoutEscape(metTheyToGo[pair]);
                }
            }
        }

        private int hersWithoutEscape(int met) {
            int set = 0;
            for (int h = 0; h < tale.houses; h++) {
                if ((tale.reachedFrom(h) & ~met) == 0) {
                    set |= 1 << h;
                }
            }
            return set;
        }

        /** Whether one more turn of theirs meets her from anywhere new. */
        private boolean lookTheirTurn(boolean together) {
            boolean more = false;
            for (int a = 0; a < tale.houses; a++) {
                for (int b = 0; b < tale.houses; b++) {
                    if (together && a != b) {
                        continue;
                    }
                    int pair = a * MOST_HOUSES + b;
                    int met = metTheyToGo[pair] | metByGoing(a, b, together);
                    more = more || met != metTheyToGo[pair];
                    metTheyToGo[pair] = met;
                }
            }
            return more;
        }

        private int metByGoing(int a, int b, boolean together) {
            int met = 0;
            for (int toA = 0; toA < tale.houses; toA++) {
                if (has(tale.reachedFrom(a), toA)) {
                    met |= together ? metSheToGo[toA * MOST_HOUSES + toA] : metByGoingTo(toA, b);
                }
            }
            return met;
        }

        private int metByGoingTo(int toA, int b) {
            int reached = tale.reachedFrom(b);
            int met = 0;
            for (int toB = 0; toB < tale.houses; toB++) {
                if (has(reached, toB)) {
                    met |= metSheToGo[toA * MOST_HOUSES + toB];
                }
            }
            return met;
        }
    }

    /** SISTERS: each chooses the hour at which she is tried. */
    private static final class Contest {
        final Measure measure;
        final int[] chosen;
        final int[] fitHours;

        Contest(Measure itsMeasure) {
            measure = itsMeasure;
            chosen = new int[MOST_GIRLS];
            fitHours = new int[MOST_GIRLS];
        }

        /** How many rounds changed something; the hours then stand in chosen. */
        int play() {
            for (int g = 0; g < measure.tale.girls; g++) {
                chosen[g] = 0;
                fitHours[g] = measure.dryFitHours(g);
            }
            for (int rounds = 0; rounds < MOST_SISTER_ROUNDS; rounds++) {
                if (!playRound()) {
                    return rounds;
                }
            }
            return MOST_SISTER_ROUNDS;
        }

        private boolean playRound() {
            boolean changed = false;
            for (int g = 0; g < measure.tale.girls; g++) {
                changed = (winner() != g && takeWinningHour(g)) || changed;
            }
            return changed;
        }

        private boolean takeWinningHour(int g) {
            int was = chosen[g];
            for (int hour = 0; hour < DAY; hour++) {
                chosen[g] = hour;
                if (winner() == g) {
                    return true;
                }
            }
            chosen[g] = was;
            return false;
        }

        int winner() {
            int best = NONE;
            for (int g = 0; g < measure.tale.girls; g++) {
                boolean sooner = best == NONE || chosen[g] < chosen[best];
                if (sooner && has(fitHours[g], chosen[g])) {
                    best = g;
                }
            }
            return best;
        }
    }

    /** Reads THE TEXT into a list. Behind the first fault nothing more is read. */
    private static final class Reader {
        private static final int END = -1;
        private static final int SHOE = 1;
        private static final int NOON = 2;
        private static final int SHE = 4;

        final int[] text;
        int length;
        int faultNumber;
        int faultByte;
        private int at;
        private int tokenByte;
        private int onceTold;
        private int gaitsTold;

        Reader() {
            text = new int[MOST_BYTES];
            faultByte = NONE;
        }

        /** Whether the text has no fault; it is empty behind this. */
        boolean readInto(Tale tale) {
            faultNumber = 0;
            faultByte = NONE;
            at = 0;
            onceTold = 0;
            gaitsTold = 0;
            tale.beginUntold();
            for (int clauses = 0; clauses <= MOST_BYTES && faultNumber == 0; clauses++) {
                beginToken();
                if (byteAt(at) == END) {
                    break;
                }
                readClause(tale);
                readSemicolon();
            }
            length = 0;
            return faultNumber == 0;
        }

        private void readClause(Tale tale) {
            int end = wordEnd();
            if (isWord("shoe", end)) {
                readShoe(tale);
            } else if (isWord("noon", end)) {
                readNoon(tale);
            } else if (isWord("house", end)) {
                readHouse(tale);
            } else if (isWord("way", end)) {
                readWay(tale);
            } else if (isWord("girl", end)) {
                readGirl(tale);
            } else if (isWord("gait", end)) {
                readGait(tale);
            } else if (isWord("she", end)) {
                readShe(tale);
            } else {
                refuse(1);
            }
        }

        private void readShoe(Tale tale) {
            takeOnce(SHOE, 4);
            tale.shoe = readNumber(1, 99);
            tale.spare = readNumber(0, 9);
            tale.wear = readNumber(0, 99);
        }

        private void readNoon(Tale tale) {
            takeOnce(NOON, 4);
            tale.noon = readNumber(0, 23);
        }

        private void readHouse(Tale tale) {
            takeCounted(tale.houses, MOST_HOUSES, 5);
            int stairs = readNumber(0, 9);
            if (faultNumber == 0) {
                tale.addHouse(stairs);
            }
        }

        private void readWay(Tale tale) {
            takeCounted(tale.wayCount, MOST_WAYS, 3);
            int a = readNumber(0, tale.houses - 1);
            int b = readNumber(0, tale.houses - 1);
            if (faultNumber == 0 && (a == b || has(tale.waysFrom(a), b))) {
                refuse(4);
            }
            if (faultNumber == 0) {
                tale.addWay(a, b);
            }
        }

        private void readGirl(Tale tale) {
            takeCounted(tale.girls, MOST_GIRLS, 4);
            int home = readNumber(0, tale.houses - 1);
            int foot = readNumber(1, 99);
            int swell = readNumber(0, 9);
            int chance = readNumber(0, EIGHTHS);
            if (faultNumber == 0) {
                tale.addGirl(home, foot, swell, chance);
            }
        }

        private void readGait(Tale tale) {
            at += 4;
            int g = readNumber(0, tale.girls - 1);
            if (faultNumber == 0 && has(gaitsTold, g)) {
                refuse(4);
            }
            if (faultNumber == 0) {
                gaitsTold |= 1 << g;
                readRow(tale, g);
            }
        }

        private void readShe(Tale tale) {
            takeOnce(SHE, 3);
            tale.sheIs = readNumber(0, tale.girls - 1);
        }

        private void readRow(Tale tale, int g) {
            beginToken();
            int end = wordEnd();
            if (end == at) {
                refuse(1);
            } else if (end - at > MOST_LETTERS || !isGait(end)) {
                refuse(4);
            } else {
                for (int i = 0; i < end - at; i++) {
                    tale.setLetter(g, i, byteAt(at + i) - 'a');
                }
                at = end;
            }
        }

        private boolean isGait(int end) {
            for (int i = at; i < end; i++) {
                if (byteAt(i) < 'a' || byteAt(i) > 'c') {
                    return false;
                }
            }
            return true;
        }

        private int readNumber(int least, int most) {
            if (faultNumber != 0) {
                return 0;
            }
            beginToken();
            int value = 0;
            int figures = 0;
            for (int i = at; i < length && isFigure(byteAt(i)); i++) {
                figures++;
                if (figures <= MOST_FIGURES) {
                    value = value * 10 + byteAt(i) - '0';
                }
            }
            if (figures == 0) {
                refuse(1);
            } else if (figures > MOST_FIGURES || value < least || value > most) {
                refuse(2);
            }
            at += figures;
            return value;
        }

        private void readSemicolon() {
            if (faultNumber != 0) {
                return;
            }
            beginToken();
            if (byteAt(at) != ';') {
                refuse(1);
            }
            at++;
        }

        private void takeOnce(int word, int letters) {
            if ((onceTold & word) != 0) {
                refuse(3);
            }
            onceTold |= word;
            at += letters;
        }

        private void takeCounted(int count, int most, int letters) {
            if (count >= most) {
                refuse(3);
            }
            at += letters;
        }

        private void refuse(int number) {
            faultNumber = number;
            faultByte = tokenByte;
        }

        private void beginToken() {
            while (at < length && byteAt(at) == ' ') {
                at++;
            }
            tokenByte = at;
        }

        private int wordEnd() {
            int end = at;
            while (end < length && isLetter(byteAt(end))) {
                end++;
            }
            return end;
        }

        private boolean isWord(String word, int end) {
            if (end - at != word.length()) {
                return false;
            }
            for (int i = 0; i < word.length(); i++) {
                if (byteAt(at + i) != word.charAt(i)) {
                    return false;
                }
            }
            return true;
        }

        private int byteAt(int i) {
            return i >= 0 && i < length && i < MOST_BYTES ? text[i] : END;
        }

        private static boolean isLetter(int c) {
            return c >= 'a' && c <= 'z';
        }

        private static boolean isFigure(int c) {
            return c >= '0' && c <= '9';
        }
    }
}
