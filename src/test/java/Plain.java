import java.util.ArrayList;
import java.util.Arrays;
import java.util.HashSet;
import java.util.List;
import java.util.Set;
import java.util.TreeMap;
import java.util.TreeSet;
import java.util.regex.Matcher;
import java.util.regex.Pattern;

/** The document read a second time, slowly and in other ways than the program: to compare the two. */
final class Plain {
    static final int NONE = -1, UNKNOWN = -1000000001, OUTSIDE = -1000000002, NOT = -1000000003, FULL = -1000000004;

    static final class Fault extends RuntimeException {
        private static final long serialVersionUID = 1;
        final int number;
        final int where;

        Fault(int number, int where) {
            this.number = number;
            this.where = where;
        }
    }

    static final class Girl {
        int home, z, s, q;
        String row = "a";
        boolean rowTold;
    }

    static final class Lists {
        int s = 30, t = 1, w = 0, noon = 12, she = 0;
        List<Integer> houses = new ArrayList<>();
        Set<String> ways = new HashSet<>();
        List<Girl> girls = new ArrayList<>();

        boolean way(int a, int b) {
            return ways.contains(a + "-" + b);
        }
    }

    static final class State {
        int hour, herald, tries;
        long seed;
        boolean found;
        List<Integer> where = new ArrayList<>(), padding = new ArrayList<>(), soaked = new ArrayList<>();
        Set<Integer> married = new TreeSet<>();

        State copy() {
            State c = new State();
            c.hour = hour;
            c.herald = herald;
            c.tries = tries;
            c.seed = seed;
            c.found = found;
            c.where.addAll(where);
            c.padding.addAll(padding);
            c.soaked.addAll(soaked);
            c.married.addAll(married);
            return c;
        }
    }

    private String text = "";
    private int fault = NONE;
    private Lists l = new Lists();
    private State st = new State();
    private final TreeMap<Integer, State> images = new TreeMap<>();
    private final List<int[]> seen = new ArrayList<>();
    private String steps = "";
    private final List<int[]> book = new ArrayList<>();

    int feed(int c) {
        if (c < 0 || c > 255) {
            return OUTSIDE;
        }
        if (text.length() == 300) {
            return FULL;
        }
        text += (char) c;
        return text.length();
    }

    // ---- reading: a list of tokens {kind, word, byte}, taken from the front

    private List<String[]> tokens;

    private static List<String[]> cut(String text) {
        List<String[]> cut = new ArrayList<>();
        Matcher m = Pattern.compile("[a-z]+|[0-9]+| +|.", Pattern.DOTALL).matcher(text);
        while (m.find()) {
            String w = m.group();
            if (!w.startsWith(" ")) {
                String kind = w.matches("[a-z]+") ? "word" : w.matches("[0-9]+") ? "number" : w;
                cut.add(new String[] {kind, w, "" + m.start()});
            }
        }
        cut.add(new String[] {"end", "", "" + text.length()});
        return cut;
    }

    private String[] take(String kind) {
        String[] token = tokens.remove(0);
        if (!token[0].equals(kind)) {
            throw new Fault(1, Integer.parseInt(token[2]));
        }
        return token;
    }

    private int lastByte;

    private int number(int low, int high) {
        String[] token = take("number");
        lastByte = Integer.parseInt(token[2]);
        if (token[1].length() > 3 || Integer.parseInt(token[1]) < low || Integer.parseInt(token[1]) > high) {
            throw new Fault(2, lastByte);
        }
        return Integer.parseInt(token[1]);
    }

    private Lists read() {
        Lists n = new Lists();
        Set<String> once = new HashSet<>();
        tokens = cut(text);
        while (!tokens.get(0)[0].equals("end")) {
            String[] word = take("word");
            int at = Integer.parseInt(word[2]);
            if (!Arrays.asList("shoe", "noon", "house", "way", "girl", "gait", "she").contains(word[1])) {
                throw new Fault(1, at);
            }
            boolean single = Arrays.asList("shoe", "noon", "she").contains(word[1]);
            boolean full = word[1].equals("house") && n.houses.size() == 6 || word[1].equals("girl") && n.girls.size() == 6
                || word[1].equals("way") && n.ways.size() == 18;
            if (single && !once.add(word[1]) || full) {
                throw new Fault(3, at);
            }
            clause(n, word[1]);
            take(";");
        }
        return n;
    }

    private void clause(Lists n, String word) {
        int lastHouse = n.houses.size() - 1;
        int lastGirl = n.girls.size() - 1;
        if (word.equals("shoe")) {
            n.s = number(1, 99);
            n.t = number(0, 9);
            n.w = number(0, 99);
        } else if (word.equals("noon")) {
            n.noon = number(0, 23);
        } else if (word.equals("house")) {
            n.houses.add(number(0, 9));
        } else if (word.equals("way")) {
            int a = number(0, lastHouse);
            int b = number(0, lastHouse);
            if (a == b || n.way(a, b)) {
                throw new Fault(4, lastByte);
            }
            n.ways.add(a + "-" + b);
            n.ways.add(b + "-" + a);
        } else if (word.equals("girl")) {
            Girl g = new Girl();
            g.home = number(0, lastHouse);
            g.z = number(1, 99);
            g.s = number(0, 9);
            g.q = number(0, 8);
            n.girls.add(g);
        } else if (word.equals("gait")) {
            Girl g = n.girls.get(number(0, lastGirl));
            if (g.rowTold) {
                throw new Fault(4, lastByte);
            }
            String[] row = take("word");
            if (!row[1].matches("[abc]{1,6}")) {
                throw new Fault(4, Integer.parseInt(row[2]));
            }
            g.row = row[1];
            g.rowTold = true;
        } else {
            n.she = number(0, lastGirl);
        }
    }

    int list() {
        try {
            l = read();
        } catch (Fault f) {
            fault = f.where;
            text = "";
            return -10 - f.number;
        }
        fault = NONE;
        text = "";
        State begin = new State();
        begin.seed = st.seed;
        for (Girl g : l.girls) {
            begin.where.add(g.home);
            begin.padding.add(0);
            begin.soaked.add(null);
        }
        st = begin;
        images.clear();
        tear();
        return l.girls.size();
    }

    int fault() {
        return fault;
    }

    // ---- feet

    private boolean isGirl(int g) {
        return g >= 0 && g < l.girls.size();
    }

    private boolean isHouse(int h) {
        return h >= 0 && h < l.houses.size();
    }

    private static int set(Iterable<Integer> of) {
        int sum = 0;
        for (int k : of) {
            sum += Math.pow(2, k);
        }
        return sum;
    }

    private boolean wet(int g, int hour) {
        Integer since = st.soaked.get(g);
        return since != null && hour - since >= 0 && hour - since <= 3;
    }

    private int size(int g, int hour, int padding, boolean water) {
        Girl girl = l.girls.get(g);
        int size = girl.z + l.houses.get(st.where.get(g)) + padding;
        if (hour % 24 >= l.noon) {
            size += girl.s;
        }
        if (water && wet(g, hour)) {
            size -= 3;
        }
        return size < 0 ? 0 : size;
    }

    private int glass(int tries) {
        return l.w == 0 ? l.s : l.s + tries / l.w;
    }

    private boolean fits(int size, int glass) {
        return size >= glass - l.t && size <= glass;
    }

    private boolean fitsDry(int g, int hour) {
        return fits(size(g, hour, st.padding.get(g), false), glass(st.tries));
    }

    private boolean fitsNew(int g, int hour, int padding) {
        return fits(size(g, hour, padding, false), l.s);
    }

    int told(int what) {
        int[] all = {l.houses.size(), l.ways.size() / 2, l.girls.size(), text.length(), l.s, l.t, l.w, l.noon,
            l.girls.isEmpty() ? NONE : l.she, st.hour, l.houses.isEmpty() ? NONE : st.herald, st.tries, glass(st.tries),
            set(st.married), st.found ? 1 : 0, seen.size(), steps.length(), book.size()};
        return what < 0 || what >= all.length ? OUTSIDE : all[what];
    }

    int house(int h, int what) {
        if (!isHouse(h)) {
            return UNKNOWN;
        }
        Set<Integer> near = new TreeSet<>(), in = new TreeSet<>();
        for (int k = 0; k < 6; k++) {
            if (l.way(h, k)) {
                near.add(k);
            }
            if (isGirl(k) && st.where.get(k) == h) {
                in.add(k);
            }
        }
        return what == 0 ? l.houses.get(h) : what == 1 ? set(near) : what == 2 ? set(in) : OUTSIDE;
    }

    int girl(int g, int what) {
        if (!isGirl(g)) {
            return UNKNOWN;
        }
        Girl girl = l.girls.get(g);
        int left = 0;
        while (wet(g, st.hour + left)) {
            left++;
        }
        int size = size(g, st.hour, st.padding.get(g), true);
        int[] all = {st.where.get(g), girl.z, girl.s, girl.q, st.padding.get(g), left, size, fits(size, glass(st.tries)) ? 1 : 0, girl.row.length()};
        return what < 0 || what >= all.length ? OUTSIDE : all[what];
    }

    int foot(int g, int hour) {
        return !isGirl(g) ? UNKNOWN : hour < 0 || hour > 99999 ? OUTSIDE : size(g, hour, st.padding.get(g), true);
    }

    int pass(int n) {
        return n < 1 || n > 999 ? OUTSIDE : (st.hour += n);
    }

    int go(int h) {
        if (!isHouse(h)) {
            return UNKNOWN;
        }
        if (!l.way(st.herald, h)) {
            return NOT;
        }
        st.herald = h;
        return ++st.hour;
    }

    int attempt() {
        if (l.houses.isEmpty()) {
            return NOT;
        }
        Set<Integer> fitted = new TreeSet<>();
        for (int g = 0; g < l.girls.size(); g++) {
            if (st.where.get(g) != st.herald || st.married.contains(g)) {
                continue;
            }
            if (girl(g, 7) == 1) {
                fitted.add(g);
                if (g == l.she) {
                    st.found = true;
                } else {
                    st.married.add(g);
                }
            }
            st.tries = st.tries == 9999 ? 9999 : st.tries + 1;
        }
        return set(fitted);
    }

    int soak(int g) {
        if (!isGirl(g)) {
            return UNKNOWN;
        }
        int was = wet(g, st.hour) ? 1 : 0;
        st.soaked.set(g, st.hour);
        return was;
    }

    int pad(int g, int n) {
        return !isGirl(g) ? UNKNOWN : n < 0 || n > 5 ? OUTSIDE : st.padding.set(g, n);
    }

    int move(int g, int h) {
        return !isGirl(g) || !isHouse(h) ? UNKNOWN : st.where.set(g, h);
    }

    private int draw(int n) {
        st.seed = (st.seed * 1103515245L + 12345L) % 2147483648L;
        return (int) (st.seed / 65536 % n);
    }

    private List<Integer> near(int h) {
        List<Integer> near = new ArrayList<>();
        for (int k = 0; k < l.houses.size(); k++) {
            if (l.way(h, k)) {
                near.add(k);
            }
        }
        return near;
    }

    int drift(int n) {
        if (n < 1 || n > 99) {
            return OUTSIDE;
        }
        if (l.girls.isEmpty()) {
            return NOT;
        }
        for (int i = 0; i < n; i++) {
            List<Integer> near = near(st.where.get(l.she));
            near.add(st.where.get(l.she));
            st.where.set(l.she, near.get(draw(near.size())));
            st.hour++;
            if (draw(6) == 0) {
                st.soaked.set(draw(l.girls.size()), st.hour);
            }
        }
        return st.where.get(l.she);
    }

    // ---- tried

    /** Looks from the end backwards which houses are still in time, for every length of the round anew. */
    int round(int g, int i) {
        if (!isGirl(g)) {
            return UNKNOWN;
        }
        for (int hours = 0; hours <= 48; hours++) {
            if (!fits(size(g, st.hour + hours, st.padding.get(g), true), glass(st.tries))) {
                continue;
            }
            List<Set<Integer>> inTime = new ArrayList<>();
            inTime.add(new TreeSet<>(Arrays.asList(st.where.get(g))));
            for (int back = 0; back < hours; back++) {
                Set<Integer> ahead = new TreeSet<>(inTime.get(0));
                for (int h : inTime.get(0)) {
                    ahead.addAll(near(h));
                }
                inTime.add(0, ahead);
            }
            if (inTime.get(0).contains(st.herald)) {
                return i == NONE ? hours : i < 0 || i > hours ? NONE : follow(inTime, i);
            }
        }
        return NONE;
    }

    private int follow(List<Set<Integer>> inTime, int i) {
        int at = st.herald;
        for (int gone = 1; gone <= i; gone++) {
            Set<Integer> to = new TreeSet<>(near(at));
            to.add(at);
            to.retainAll(inTime.get(gone));
            at = to.iterator().next();
        }
        return at;
    }

    private static final int NEVER = 1000000;

    /** Values of the game by going over all states till none changes. */
    int chase(int k) {
        if (k < 1 || k > 2) {
            return OUTSIDE;
        }
        if (l.houses.isEmpty()) {
            return NOT;
        }
        int n = l.houses.size();
        int others = k == 1 ? 1 : n;
        int[][][] value = new int[n][others][n];
        for (int[][] some : value) {
            for (int[] row : some) {
                Arrays.fill(row, NEVER);
            }
        }
        boolean changed = true;
        while (changed) {
            changed = false;
            int[][][] better = new int[n][others][n];
            for (int a = 0; a < n; a++) {
                for (int b = 0; b < others; b++) {
                    for (int r = 0; r < n; r++) {
                        better[a][b][r] = met(k, a, b, r) ? 0 : theirBest(k, value, a, b, r);
                        changed |= better[a][b][r] != value[a][b][r];
                    }
                }
            }
            value = better;
        }
        int best = NEVER;
        for (int a = 0; a < n; a++) {
            for (int b = 0; b < others; b++) {
                best = Math.min(best, Arrays.stream(value[a][b]).max().getAsInt());
            }
        }
        return best >= NEVER ? NONE : best;
    }

    private static boolean met(int k, int a, int b, int r) {
        return a == r || k == 2 && b == r;
    }

    private int theirBest(int k, int[][][] value, int a, int b, int r) {
        int best = NEVER;
        List<Integer> toA = near(a), toB = k == 2 ? near(b) : new ArrayList<>();
        toA.add(a);
        toB.add(b);
        for (int x : toA) {
            for (int y : toB) {
                int worst = 0;
                if (!met(k, x, y, r)) {
                    worst = value[x][y][r];
                    for (int flee : near(r)) {
                        worst = Math.max(worst, value[x][y][flee]);
                    }
                }
                best = Math.min(best, worst + 1);
            }
        }
        return Math.min(best, NEVER);
    }

    int fewest() {
        return chase(1) >= 0 ? 1 : chase(2) >= 0 ? 2 : NONE;
    }

    int rule(int g, int what) {
        if (!isGirl(g)) {
            return UNKNOWN;
        }
        if (what != 0 && what != 1) {
            return OUTSIDE;
        }
        for (int pair = 0; pair < 576; pair++) {
            int a = pair / 24, b = pair % 24;
            boolean rule = a < b && fitsNew(g, a, 0) && fitsNew(g, b, 0);
            for (int q = 0; q < l.girls.size() && rule; q++) {
                rule = q == g || passes(q, a, b) == NONE;
            }
            if (rule) {
                return what == 0 ? a : b;
            }
        }
        return NONE;
    }

    int passes(int g, int a, int b) {
        if (!isGirl(g)) {
            return UNKNOWN;
        }
        if (Math.min(a, b) < 0 || Math.max(a, b) > 23) {
            return OUTSIDE;
        }
        int least = NONE;
        for (int padding = 5; padding >= 0; padding--) {
            least = fitsNew(g, a, padding) && fitsNew(g, b, padding) ? padding : least;
        }
        return least;
    }

    int apart(int g, int q) {
        if (!isGirl(g) || !isGirl(q) || g == q) {
            return UNKNOWN;
        }
        Set<Integer> hours = new TreeSet<>();
        for (int hour = 0; hour < 24; hour++) {
            if (fitsDry(g, hour) && !fitsDry(q, hour) || !fitsDry(g, hour) && fitsDry(q, hour)) {
                hours.add(hour);
            }
        }
        return set(hours);
    }

    int worn(int g, int q, int hour) {
        if (!isGirl(g) || !isGirl(q) || g == q) {
            return UNKNOWN;
        }
        if (hour < 0 || hour > 23) {
            return OUTSIDE;
        }
        for (int tries = 0; tries <= 9999; tries++) {
            if (fits(size(g, hour, st.padding.get(g), false), glass(tries)) && fits(size(q, hour, st.padding.get(q), false), glass(tries))) {
                return tries;
            }
        }
        return NONE;
    }

    private boolean wins(int g, int[] hours) {
        boolean wins = fitsDry(g, hours[g]);
        for (int q = 0; q < hours.length; q++) {
            boolean ahead = hours[q] < hours[g] || hours[q] == hours[g] && q < g;
            wins &= q == g || !fitsDry(q, hours[q]) || !ahead;
        }
        return wins;
    }

    int sisters(int what, int g) {
        if (what == 2 && !isGirl(g)) {
            return UNKNOWN;
        }
        if (what < 0 || what > 2) {
            return OUTSIDE;
        }
        int[] hours = new int[l.girls.size()];
        int changes = 0;
        for (int round = 1; round <= 30; round++) {
            int[] before = hours.clone();
            for (int k = 0; k < hours.length; k++) {
                for (int hour = 0; hour < 24 && !wins(k, hours); hour++) {
                    int[] tried = hours.clone();
                    tried[k] = hour;
                    hours = wins(k, tried) ? tried : hours;
                }
            }
            if (Arrays.equals(before, hours)) {
                break;
            }
            changes++;
        }
        int winner = NONE;
        for (int k = 0; k < hours.length; k++) {
            winner = wins(k, hours) ? k : winner;
        }
        return what == 0 ? changes : what == 1 ? winner : hours[g];
    }

    int odds(int g, int hour, int part) {
        if (!isGirl(g)) {
            return UNKNOWN;
        }
        if (hour < 0 || hour > 23 || part < 0 || part > 1) {
            return OUTSIDE;
        }
        int above = 0;
        for (int eighth = 0; eighth < 8; eighth++) {
            boolean swells = hour >= l.noon && eighth < l.girls.get(g).q;
            int size = l.girls.get(g).z + l.houses.get(st.where.get(g)) + st.padding.get(g) + (swells ? l.girls.get(g).s : 0);
            above += fits(size, glass(st.tries)) ? 1 : 0;
        }
        int common = java.math.BigInteger.valueOf(above).gcd(java.math.BigInteger.valueOf(8)).intValue();
        return part == 0 ? above / common : 8 / common;
    }

    // ---- what was seen

    int see(int hour, boolean fitted) {
        if (hour < 0 || hour > 23) {
            return OUTSIDE;
        }
        if (seen.size() == 20) {
            return FULL;
        }
        seen.add(new int[] {hour, fitted ? 1 : 0});
        return seen.size();
    }

    int could() {
        Set<Integer> who = new TreeSet<>();
        for (int g = 0; g < l.girls.size(); g++) {
            boolean could = true;
            for (int[] s : seen) {
                could &= fitsNew(g, s[0], 0) == (s[1] == 1);
            }
            if (could) {
                who.add(g);
            }
        }
        return set(who);
    }

    int next() {
        int who = could();
        int best = NONE;
        int least = 7;
        for (int hour = 23; hour >= 0; hour--) {
            int yes = 0, no = 0;
            for (int g = 0; g < l.girls.size(); g++) {
                if ((who >> g) % 2 == 1) {
                    yes += fitsNew(g, hour, 0) ? 1 : 0;
                    no += fitsNew(g, hour, 0) ? 0 : 1;
                }
            }
            if (yes > 0 && no > 0 && Math.max(yes, no) <= least) {
                least = Math.max(yes, no);
                best = hour;
            }
        }
        return best;
    }

    int step(int letter) {
        if (letter < 0 || letter > 2) {
            return OUTSIDE;
        }
        if (steps.length() == 12) {
            return FULL;
        }
        steps += "abc".charAt(letter);
        return steps.length();
    }

    int walker() {
        Set<Integer> who = new TreeSet<>();
        for (int g = 0; g < l.girls.size(); g++) {
            if (l.girls.get(g).row.repeat(18).contains(steps)) {
                who.add(g);
            }
        }
        return set(who);
    }

    int write(int hour, int g, boolean fitted) {
        if (!isGirl(g)) {
            return UNKNOWN;
        }
        if (hour < 0 || hour > 99999) {
            return OUTSIDE;
        }
        if (book.size() == 30) {
            return FULL;
        }
        book.add(new int[] {hour, g, fitted ? 1 : 0});
        return book.size();
    }

    int tear() {
        int all = seen.size() + steps.length() + book.size();
        seen.clear();
        steps = "";
        book.clear();
        return all;
    }

    int judge() {
        for (int[] line : book) {
            if (fitsNew(line[1], line[0], st.padding.get(line[1])) != (line[2] == 1)) {
                return book.indexOf(line);
            }
        }
        return NONE;
    }

    int seed(int v) {
        if (v < 0) {
            return OUTSIDE;
        }
        int was = (int) st.seed;
        st.seed = v;
        return was;
    }

    int keep(int i) {
        if (i != 0 && i != 1) {
            return UNKNOWN;
        }
        images.put(i, st.copy());
        return 1;
    }

    int goBack(int i) {
        if (i != 0 && i != 1) {
            return UNKNOWN;
        }
        if (!images.containsKey(i)) {
            return NOT;
        }
        st = images.get(i).copy();
        return 1;
    }
}
