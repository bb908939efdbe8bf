import java.math.BigInteger;
import java.util.ArrayList;
import java.util.List;
import java.util.Map;
import java.util.TreeMap;
import java.util.TreeSet;

/** The document told a second time, by the plainest ways and with the whole library, to compare answers with. */
final class Oracle {
    static final int NONE = -6, UNKNOWN = -1, OUTSIDE = -2, STATE = -3, FULL = -4, NO = -5;
    private static final String FORM = "([A-G]([a-g]|\\*|![a-g])|w[1-9]|\\.)*";

    /** All but the pad. */
    static final class All {
        Map<String, Integer> pales = new TreeMap<>();
        Map<String, Integer> roads = new TreeMap<>();
        int[] at = {0, 1, 2, 3, 4, 5, 6};
        int[] cows = {5, 5, 5, 5, 5, 5, 5};
        int day = 0;
        String[][] rows = {{"0123", "0123", "0123", "0123"}, {"0123", "0123", "0123", "0123"}};
        List<int[]> sights = new ArrayList<>();

        All copy() {
            All c = new All();
            c.pales = new TreeMap<>(pales);
            c.roads = new TreeMap<>(roads);
            c.at = at.clone();
            c.cows = cows.clone();
            c.day = day;
            c.rows = new String[][] {rows[0].clone(), rows[1].clone()};
            c.sights = new ArrayList<>(sights);
            return c;
        }

        int gaps() {
            return (int) pales.values().stream().filter(s -> s == 0).count();
        }

        int away() {
            int bits = 0;
            for (int m = 0; m < 7; m++) {
                bits += at[m] == m ? 0 : 1 << m;
            }
            return bits;
        }

        /** Does an act as it is written, if it can be; answers why not. */
        int act(String act) {
            if (act.equals(".")) {
                return dayPasses();
            }
            if (act.charAt(0) == 'w') {
                if (pales.isEmpty()) {
                    return 6;
                }
                pales.replaceAll((k, s) -> Math.max(0, s - (act.charAt(1) - '0')));
                return 0;
            }
            int man = act.charAt(0) - 'A';
            if (act.charAt(1) == '*') {
                return deed(man, at[man], at[man] == man, 9);
            }
            if (act.charAt(1) == '!') {
                return deed(man, act.charAt(2) - 'a', at[man] != man, 0);
            }
            int to = act.charAt(1) - 'a';
            if (at[man] == to) {
                return 1;
            }
            if (!roads.containsKey(key(at[man], to))) {
                return 2;
            }
            at[man] = to;
            return 0;
        }

        private int deed(int man, int other, boolean wrongPlace, int end) {
            Integer s = pales.get(key(man, other));
            if (wrongPlace) {
                return 3;
            }
            if (s == null) {
                return 4;
            }
            if (s == end) {
                return 5;
            }
            pales.put(key(man, other), end == 0 ? s / 2 : Math.min(9, s + 3));
            return 0;
        }

        private int dayPasses() {
            if (day == 99) {
                return 7;
            }
            day++;
            for (String k : pales.keySet()) {
                if (pales.get(k) == 0) {
                    int a = k.charAt(0) - '0';
                    int b = k.charAt(1) - '0';
                    int from = cows[a] > cows[b] ? a : b;
                    if (cows[a] != cows[b]) {
                        cows[from]--;
                        cows[a + b - from]++;
                    }
                }
            }
            return 0;
        }
    }

    All now = new All();
    All[] images = new All[2];
    String pad = "";

    static String key(int a, int b) {
        return "" + Math.min(a, b) + Math.max(a, b);
    }

    static boolean in(int x, int least, int most) {
        return x >= least && x <= most;
    }

    static boolean two(int a, int b) {
        return in(a, 0, 6) && in(b, 0, 6) && a != b;
    }

    int pale(int a, int b, int strength) {
        if (!two(a, b)) {
            return UNKNOWN;
        }
        if (!in(strength, -1, 9)) {
            return OUTSIDE;
        }
        now.pales.remove(key(a, b));
        if (strength >= 0) {
            now.pales.put(key(a, b), strength);
        }
        return now.pales.size();
    }

    int road(int a, int b, int miles) {
        if (!two(a, b)) {
            return UNKNOWN;
        }
        if (!in(miles, 0, 9)) {
            return OUTSIDE;
        }
        Integer was = now.roads.remove(key(a, b));
        if (miles > 0) {
            now.roads.put(key(a, b), miles);
        }
        return was == null ? 0 : was;
    }

    int farm(int farm, int cows, int at) {
        if (!in(farm, 0, 6) || !in(at, 0, 6)) {
            return UNKNOWN;
        }
        if (!in(cows, 0, 99)) {
            return OUTSIDE;
        }
        int was = now.at[farm];
        now.at[farm] = at;
        now.cows[farm] = cows;
        return was;
    }

    int likes(int side, int one, int row) {
        if (!in(side, 0, 1) || !in(one, 0, 3)) {
            return UNKNOWN;
        }
        String text = String.format("%04d", row);
        if (text.length() != 4 || !text.contains("0") || !text.contains("1") || !text.contains("2")
                || !text.contains("3")) {
            return OUTSIDE;
        }
        int was = Integer.parseInt(now.rows[side][one]);
        now.rows[side][one] = text;
        return was;
    }

    int say(int sign) {
        if (!in(sign, 33, 126)) {
            return OUTSIDE;
        }
        if (pad.length() == 60) {
            return FULL;
        }
        pad += (char) sign;
        return pad.length();
    }

    int wipe() {
        int was = pad.length();
        pad = "";
        return was;
    }

    /** The first place up to which no text that can stand begins so. */
    int fault() {
        for (int i = 1; i <= pad.length(); i++) {
            String head = pad.substring(0, i);
            if (!(head.matches(FORM) || (head + "a").matches(FORM) || (head + "1").matches(FORM)
                    || (head + "!a").matches(FORM))) {
                return i - 1;
            }
        }
        return pad.matches(FORM) ? NONE : pad.length();
    }

    private List<String> acts() {
        List<String> acts = new ArrayList<>();
        for (String act : pad.split("(?=[A-Gw.])")) {
            if (!act.isEmpty()) {
                acts.add(act);
            }
        }
        return acts;
    }

    /** What the weeks come to: the failing act, why, acts, gaps, miles, away, day, gap's act, gap; and all then. */
    private int[] outcome = new int[9];
    private All then = null;

    private void run() {
        then = now.copy();
        outcome = new int[] {NONE, NONE, 0, 0, 0, 0, 0, NONE, NONE};
        List<String> acts = acts();
        outcome[2] = acts.size();
        for (int i = 0; i < acts.size(); i++) {
            All before = then.copy();
            int why = then.act(acts.get(i));
            if (why != 0) {
                outcome[0] = i;
                outcome[1] = why;
                return;
            }
            for (int m = 0; m < 7; m++) {
                outcome[4] += before.at[m] == then.at[m] ? 0 : now.roads.get(key(before.at[m], then.at[m]));
            }
            for (String k : then.pales.keySet()) {
                if (outcome[8] == NONE && then.pales.get(k) == 0 && before.pales.get(k) != 0) {
                    outcome[7] = i;
                    outcome[8] = Integer.parseInt(k);
                }
            }
        }
        outcome[3] = then.gaps();
        outcome[5] = then.away();
        outcome[6] = then.day;
    }

    private boolean cannot() {
        if (fault() != NONE) {
            return true;
        }
        run();
        return outcome[0] != NONE;
    }

    int judge(int what) {
        if (!in(what, 0, 1)) {
            return OUTSIDE;
        }
        if (fault() != NONE) {
            return NO;
        }
        run();
        return outcome[what];
    }

    int done() {
        if (cannot()) {
            return NO;
        }
        now = then;
        pad = "";
        return outcome[2];
    }

    int behind(int a, int b) {
        if (!two(a, b)) {
            return UNKNOWN;
        }
        return cannot() ? NO : then.pales.getOrDefault(key(a, b), NONE);
    }

    int goes(int farm, int what) {
        if (!in(farm, 0, 6)) {
            return UNKNOWN;
        }
        if (!in(what, 0, 1)) {
            return OUTSIDE;
        }
        return cannot() ? NO : what == 0 ? then.at[farm] : then.cows[farm];
    }

    int then(int what) {
        if (!in(what, 0, 5)) {
            return OUTSIDE;
        }
        return cannot() ? NO : outcome[3 + what];
    }

    int round(int a, int b) {
        if (!in(a, 0, 6) || !in(b, 0, 6)) {
            return UNKNOWN;
        }
        int way = way(a, b, 1 << a);
        return way >= 100000 ? NONE : way;
    }

    /** The least miles over all paths that meet no farm twice. */
    private int way(int a, int b, int met) {
        if (a == b) {
            return 0;
        }
        int least = 100000;
        for (int c = 0; c < 7; c++) {
            Integer miles = now.roads.get(key(a, c));
            if ((met >> c & 1) == 0 && miles != null) {
                least = Math.min(least, miles + way(c, b, met | 1 << c));
            }
        }
        return least;
    }

    int mends(int man) {
        if (!in(man, 0, 6)) {
            return UNKNOWN;
        }
        TreeSet<Integer> wanted = new TreeSet<>();
        for (int f = 0; f < 7; f++) {
            Integer s = now.pales.get(key(man, f));
            if (s != null && s < 9) {
                wanted.add(f);
            }
        }
        // A walk by single roads, by the least miles yet for (place, what is left), until nothing changes.
        Map<String, Integer> least = new TreeMap<>();
        least.put(man + " " + wanted, 0);
        Map<String, TreeSet<Integer>> left = new TreeMap<>();
        left.put(man + " " + wanted, wanted);
        boolean changed = true;
        while (changed) {
            changed = false;
            for (String k : new ArrayList<>(least.keySet())) {
                int at = k.charAt(0) - '0';
                for (int f = 0; f < 7; f++) {
                    Integer miles = now.roads.get(key(at, f));
                    if (miles == null) {
                        continue;
                    }
                    TreeSet<Integer> rest = new TreeSet<>(left.get(k));
                    rest.remove(f);
                    String next = f + " " + rest;
                    if (least.getOrDefault(next, 100000) > least.get(k) + miles) {
                        least.put(next, least.get(k) + miles);
                        left.put(next, rest);
                        changed = true;
                    }
                }
            }
        }
        return least.getOrDefault(man + " []", NONE);
    }

    private List<int[]> steadyOnes() {
        List<int[]> steady = new ArrayList<>();
        for (int i = 0; i < 4; i++) {
            for (int j = 0; j < 4; j++) {
                for (int k = 0; k < 4; k++) {
                    int[] w = {i, j, k, 6 - i - j - k};
                    if (i != j && i != k && j != k && isSteady(w)) {
                        steady.add(w);
                    }
                }
            }
        }
        return steady;
    }

    private boolean isSteady(int[] w) {
        for (int a = 0; a < 4; a++) {
            for (int b = 0; b < 4; b++) {
                String bRow = now.rows[1][w[b]];
                String aRow = now.rows[0][a];
                boolean aWould = aRow.indexOf('0' + w[b]) < aRow.indexOf('0' + w[a]);
                boolean bWould = bRow.indexOf('0' + a) < bRow.indexOf('0' + b);
                if (aWould && bWould) {
                    return false;
                }
            }
        }
        return true;
    }

    int steady() {
        return steadyOnes().size();
    }

    /** By proposals: those of the best side ask in turn, the others keep whom they like best. */
    int wed(int side, int one, int best) {
        if (!in(side, 0, 1) || !in(one, 0, 3)) {
            return UNKNOWN;
        }
        if (!in(best, 0, 1)) {
            return OUTSIDE;
        }
        int[] asked = new int[4];
        int[] keeps = {-1, -1, -1, -1};
        boolean anew = true;
        while (anew) {
            anew = false;
            for (int p = 0; p < 4; p++) {
                if (keeps[0] != p && keeps[1] != p && keeps[2] != p && keeps[3] != p) {
                    int q = now.rows[best][p].charAt(asked[p]++) - '0';
                    String row = now.rows[1 - best][q];
                    if (keeps[q] < 0 || row.indexOf('0' + p) < row.indexOf('0' + keeps[q])) {
                        keeps[q] = p;
                    }
                    anew = true;
                }
            }
        }
        if (side != best) {
            return keeps[one];
        }
        for (int q = 0; q < 4; q++) {
            if (keeps[q] == one) {
                return q;
            }
        }
        return NONE;
    }

    int seen(int days, int post, boolean down) {
        if (!in(days, 0, 5) || !in(post, 0, 99)) {
            return OUTSIDE;
        }
        if (now.sights.size() == 8) {
            return FULL;
        }
        now.sights.add(new int[] {days, post, down ? 1 : 0});
        return now.sights.size();
    }

    int forget() {
        int was = now.sights.size();
        now.sights.clear();
        return was;
    }

    private static boolean down(int code, int days, int post) {
        return in(post, code / 10, code / 10 + days * (code % 10));
    }

    private List<Integer> fitting() {
        List<Integer> fit = new ArrayList<>();
        for (int code = 0; code < 410; code++) {
            boolean fits = true;
            for (int[] s : now.sights) {
                fits &= down(code, s[0], s[1]) == (s[2] == 1);
            }
            if (fits) {
                fit.add(code);
            }
        }
        return fit;
    }

    int posts(int i) {
        List<Integer> fit = fitting();
        return i == -1 ? fit.size() : in(i, 0, fit.size() - 1) ? fit.get(i) : NONE;
    }

    int ask(int what) {
        if (!in(what, 0, 1)) {
            return OUTSIDE;
        }
        List<Integer> fit = fitting();
        if (fit.isEmpty()) {
            return NONE;
        }
        int best = 0;
        int fewest = 1000;
        for (int q = 0; q < 600; q++) {
            int down = 0;
            for (int code : fit) {
                down += down(code, q / 100, q % 100) ? 1 : 0;
            }
            int left = Math.max(down, fit.size() - down);
            if (left < fewest) {
                best = q;
                fewest = left;
            }
        }
        return what == 0 ? best : fewest;
    }

    private static final Map<String, Boolean> WINS = new TreeMap<>();

    /** Whether who is to move wins on these heaps (rising; those of 1 and 2 are left out), by trying all partings. */
    private static boolean wins(List<Integer> heaps) {
        String key = heaps.toString();
        Boolean known = WINS.get(key);
        if (known != null) {
            return known;
        }
        boolean wins = false;
        for (int i = 0; i < heaps.size() && !wins; i++) {
            for (int less = 1; 2 * less < heaps.get(i) && !wins; less++) {
                wins = !wins(parted(heaps, i, less));
            }
        }
        WINS.put(key, wins);
        return wins;
    }

    private static List<Integer> parted(List<Integer> heaps, int i, int less) {
        List<Integer> rest = new ArrayList<>(heaps);
        int heap = rest.remove(i);
        rest.add(less);
        rest.add(heap - less);
        rest.removeIf(h -> h < 3);
        rest.sort(null);
        return rest;
    }

    /** By trying all; for small n alone. */
    static int heaps(int n, int what) {
        for (int less = 1; 2 * less < n; less++) {
            if (!wins(parted(new ArrayList<>(List.of(n)), 0, less))) {
                return what == 0 ? 1 : less;
            }
        }
        return what == 0 ? 0 : NONE;
    }

    /** By counting, wind for wind, in how many ways the strongest is each. */
    static long gust(int n, int m, int k, int what, int part) {
        if (!in(n, 1, 12) || !in(m, 1, 9) || !in(k, 1, m) || !in(what, 0, 1) || !in(part, 0, 1)) {
            return -1000000000000000002L;
        }
        BigInteger[] ways = new BigInteger[10];
        java.util.Arrays.fill(ways, BigInteger.ZERO);
        ways[0] = BigInteger.ONE;
        for (int i = 0; i < n; i++) {
            BigInteger[] more = new BigInteger[10];
            java.util.Arrays.fill(more, BigInteger.ZERO);
            for (int s = 0; s <= 9; s++) {
                for (int w = 1; w <= m; w++) {
                    more[Math.max(s, w)] = more[Math.max(s, w)].add(ways[s]);
                }
            }
            ways = more;
        }
        BigInteger all = BigInteger.valueOf(m).pow(n);
        BigInteger sum = BigInteger.ZERO;
        for (int s = 1; s <= 9; s++) {
            sum = sum.add(ways[s].multiply(BigInteger.valueOf(s)));
        }
        BigInteger upper = what == 0 ? ways[k] : sum;
        return (part == 0 ? upper : all).divide(upper.gcd(all)).longValueExact();
    }

    int year(int seed, int m, int what) {
        if (!in(seed, 0, 9999) || !in(m, 1, 99) || !in(what, 0, 2)) {
            return OUTSIDE;
        }
        All all = now.copy();
        long x = seed;
        for (int i = 0; i < m; i++) {
            x = (75 * x + 74) % 65537;
            char man = (char) ('A' + x % 7);
            long z = x / 56;
            char farm = (char) ('a' + z % 7);
            String[] lots = {
                "" + man + farm, "" + man + farm, "" + man + farm, man + "*", man + "!" + farm, "w" + (1 + z % 3),
                ".", "."};
            all.act(lots[(int) (x / 7 % 8)]);
        }
        return what == 0 ? all.gaps() : what == 1 ? Integer.bitCount(all.away()) : all.cows[0];
    }

    int image(int n) {
        if (!in(n, 0, 1)) {
            return OUTSIDE;
        }
        images[n] = now.copy();
        return 1;
    }

    int restore(int n) {
        if (!in(n, 0, 1)) {
            return OUTSIDE;
        }
        if (images[n] == null) {
            return STATE;
        }
        now = images[n].copy();
        return 1;
    }

    int told(int what) {
        String text = String.format("%03d", what);
        int b = Math.floorMod(what, 10);
        int a = Math.floorMod(what / 10, 10);
        if (text.matches("00[0-4]")) {
            return new int[] {pad.length(), now.gaps(), now.away(), now.day, now.sights.size()}[what];
        }
        if (text.matches("0[12][0-6]")) {
            return a == 1 ? now.at[b] : now.cows[b];
        }
        if (text.matches("0[34][0-3]")) {
            return Integer.parseInt(now.rows[a - 3][b]);
        }
        if (text.matches("1[0-6][0-6]")) {
            return now.pales.getOrDefault(key(a, b), NONE);
        }
        return text.matches("2[0-6][0-6]") ? now.roads.getOrDefault(key(a, b), 0) : OUTSIDE;
    }
}
