/** The sentences of promises 18 to 24 (and of part 4) that name a boundary, each with a test. */
public final class PostsBoundsTest {
    private static final Check CHECK = new Check();
    private static final int NONE = -6, OUTSIDE = -2, FULL = -4;
    private static final int LEAST = Integer.MIN_VALUE, MOST = Integer.MAX_VALUE;
    private static final long REFUSED = -1000000000000000002L;

    public static void main(String[] args) {
        daysAndPosts();
        eightSightsAtMost();
        forgetAnswersHowManyThereWere();
        postsFromPToPAndITimesW();
        firstAndLastPosts();
        theIthRising();
        nothingFits();
        askOutside();
        askOfFew();
        askWhenFull();
        heapsFrom0To60();
        theLessTheLeast();
        gustBounds();
        gustEdges();
        gustOfTheMean();
        yearBounds();
        actsOfAYear();
        actsThatCanNotBe();
        winds1To3();
        leftOverBy65537();
        mActs();
        daysOfAYearEndWith99();
        fromAllAsItIs();
        CHECK.end();
    }

    /** "behind i days (0 to 5) post x (0 to 99)", OUTSIDE. */
    private static void daysAndPosts() {
        int[] days = {LEAST, -2, -1, 0, 1, 4, 5, 6, 7, MOST};
        int[] posts = {LEAST, -100, -1, 0, 1, 40, 41, 98, 99, 100, 101, MOST};
        for (int d : days) {
            for (int p : posts) {
                boolean may = d >= 0 && d <= 5 && p >= 0 && p <= 99;
                PaleMoor x = new PaleMoor();
                CHECK.due("seen(" + d + ", " + p + ", false)", x.seen(d, p, false), may ? 1 : OUTSIDE);
                CHECK.due("seen(" + d + ", " + p + ", true)", x.seen(d, p, true), may ? 2 : OUTSIDE);
                CHECK.due("sights", x.told(4), may ? 2 : 0);
                CHECK.due("both can not be", x.posts(-1), may ? 0 : 410);
            }
        }
    }

    /** "SIGHTS, 8 at most", FULL: the ninth is no sight; room again behind forget and behind restore. */
    private static void eightSightsAtMost() {
        PaleMoor x = new PaleMoor();
        for (int i = 1; i <= 8; i++) {
            CHECK.due("sight", x.seen(0, 99, false), i);
            if (i == 7) {
                x.image(0);
            }
        }
        CHECK.due("the ninth", x.seen(0, 40, true), FULL);
        CHECK.due("it is none", x.posts(-1), 410);
        CHECK.due("sights", x.told(4), 8);
        x.restore(0);
        CHECK.due("room for one", x.seen(0, 40, true), 8);
        CHECK.due("it is one", x.posts(-1), 10);
        CHECK.due("no more room", x.seen(0, 40, true), FULL);
        CHECK.due("forgotten", x.forget(), 8);
        CHECK.due("room again", x.seen(0, 0, true), 1);
        CHECK.due("of this one alone", x.posts(-1), 10);
    }

    /** "SIGHTS go: how many there were". */
    private static void forgetAnswersHowManyThereWere() {
        PaleMoor x = new PaleMoor();
        for (int n = 0; n <= 8; n++) {
            for (int i = 0; i < n; i++) {
                x.seen(i % 6, i, i % 2 == 0);
            }
            CHECK.due("there were", x.forget(), n);
            CHECK.due("there are", x.told(4), 0);
            CHECK.due("there were none", x.forget(), 0);
            CHECK.due("all fit", x.posts(-1), 410);
        }
    }

    /** "behind i days posts p to p and i times w are": both ends of it, and the one on either side of it. */
    private static void postsFromPToPAndITimesW() {
        for (int p = 0; p <= 40; p++) {
            for (int w = 0; w <= 9; w++) {
                for (int i = 1; i <= 5; i++) {
                    PaleMoor x = new PaleMoor();
                    x.seen(0, p, true);
                    x.seen(i, p + i * w, true);
                    x.seen(i, p + i * w + 1, false);
                    String of = "p " + p + " w " + w + " i " + i;
                    CHECK.due(of, x.posts(-1), 1);
                    CHECK.due(of, x.posts(0), 10 * p + w);
                    x.seen(i, p, true);
                    CHECK.due(of + ", p itself", x.posts(-1), 1);
                    if (p > 0) {
                        x.seen(i, p - 1, false);
                        CHECK.due(of + ", ahead of p", x.posts(0), 10 * p + w);
                    }
                }
            }
        }
    }

    private static int fitting(int days, int post, boolean down) {
        PaleMoor x = new PaleMoor();
        x.seen(days, post, down);
        return x.posts(-1);
    }

    /** "post p (0 to 40) was down; each day w (0 to 9) more": posts that may be down, and those that can not. */
    private static void firstAndLastPosts() {
        for (int post = 0; post <= 99; post++) {
            CHECK.due("day 0, down, " + post, fitting(0, post, true), post <= 40 ? 10 : 0);
            CHECK.due("day 0, not, " + post, fitting(0, post, false), post <= 40 ? 400 : 410);
        }
        CHECK.due("day 1, post 49: 40 and 9 alone", fitting(1, 49, true), 1);
        CHECK.due("day 1, post 50: none", fitting(1, 50, true), 0);
        CHECK.due("day 5, post 85: 40 and 9 alone", fitting(5, 85, true), 1);
        CHECK.due("day 5, post 84: 39 and 9, 40 and 9", fitting(5, 84, true), 2);
        CHECK.due("day 5, post 86: none", fitting(5, 86, true), 0);
        CHECK.due("day 5, post 99: none", fitting(5, 99, true), 0);
        CHECK.due("day 5, post 99: all", fitting(5, 99, false), 410);
        CHECK.due("day 5, post 0: p is 0", fitting(5, 0, true), 10);
    }

    /** "how many (i = -1), the i-th, from 0 on; NONE (i below -1, too)", "(rising)". */
    private static void theIthRising() {
        PaleMoor x = new PaleMoor();
        CHECK.due("how many", x.posts(-1), 410);
        for (int i = 0; i < 410; i++) {
            CHECK.due("the i-th", x.posts(i), i);
        }
        for (int i : new int[] {LEAST, -411, -410, -3, -2, 410, 411, MOST}) {
            CHECK.due("posts(" + i + ")", x.posts(i), NONE);
        }
        x.seen(0, 40, true);
        x.seen(1, 47, true);
        int[] due = {3, 407, 408, 409, NONE};
        for (int i = -1; i <= 3; i++) {
            CHECK.due("posts(" + i + ")", x.posts(i), due[i + 1]);
        }
        CHECK.due("posts(-2)", x.posts(-2), NONE);
    }

    /** "NONE: nothing fits" of ask; none to count or to tell of posts. */
    private static void nothingFits() {
        PaleMoor x = new PaleMoor();
        x.seen(5, 86, true);
        for (int i = -2; i <= 1; i++) {
            CHECK.due("posts(" + i + ")", x.posts(i), i == -1 ? 0 : NONE);
        }
        CHECK.due("ask(0)", x.ask(0), NONE);
        CHECK.due("ask(1)", x.ask(1), NONE);
        CHECK.due("outside all the same", x.ask(2), OUTSIDE);
        CHECK.due("a sight all the same", x.seen(0, 0, true), 2);
        CHECK.due("nothing fits still", x.posts(-1), 0);
        x.forget();
        CHECK.due("again", x.ask(1), 205);
    }

    /** "OUTSIDE". */
    private static void askOutside() {
        PaleMoor x = new PaleMoor();
        for (int what : new int[] {LEAST, -2, -1, 2, 3, MOST}) {
            CHECK.due("ask(" + what + ")", x.ask(what), OUTSIDE);
        }
    }

    private static void asked(PaleMoor x, int cases, int question, int left) {
        CHECK.due("cases", x.posts(-1), cases);
        CHECK.due("question of " + cases, x.ask(0), question);
        CHECK.due("left of " + cases, x.ask(1), left);
    }

    /** "so that, be it down or not, fewest of these are left at the most: the least; how many". */
    private static void askOfFew() {
        PaleMoor x = new PaleMoor();
        asked(x, 410, 530, 205);
        x.seen(5, 85, true);
        // 40 and 9 alone: whatever is asked, one is left; the least question is day 0, post 0.
        asked(x, 1, 0, 1);
        x.forget();
        x.seen(5, 84, true);
        // 39 and 9, 40 and 9: on day 0 post 39 tells.
        asked(x, 2, 39, 1);
        x.forget();
        x.seen(0, 40, true);
        x.seen(1, 48, true);
        // 40 and 8, 40 and 9: no post of day 0 tells, post 49 of day 1 does.
        asked(x, 2, 149, 1);
        x.forget();
        x.seen(0, 0, true);
        // 0 and 0 to 9: on day 1 post 5 is down for five of them.
        asked(x, 10, 105, 5);
        x.seen(1, 1, false);
        asked(x, 1, 0, 1);
        x.forget();
        x.seen(4, 41, true);
        x.seen(3, 57, true);
        asked(x, 26, 577, 13);
        x.forget();
        x.seen(1, 18, false);
        x.seen(1, 10, true);
        x.seen(1, 17, true);
        // 8 and 9, 9 and 8, 10 and 7: of three two are left at the most, by day 0, post 8 first.
        asked(x, 3, 8, 2);
    }

    /** Eight sights, no room for the next: what to ask about is told all the same. */
    private static void askWhenFull() {
        PaleMoor x = new PaleMoor();
        for (int i = 0; i < 8; i++) {
            x.seen(0, 40, true);
        }
        asked(x, 10, 145, 5);
    }

    /** "at first one of n (0 to 60)", "two that are not alike, of 1 at least; who can not has lost", OUTSIDE. */
    private static void heapsFrom0To60() {
        PaleMoor x = new PaleMoor();
        for (int n : new int[] {LEAST, -61, -1, 61, 62, MOST}) {
            CHECK.due("heaps(" + n + ", 0)", x.heaps(n, 0), OUTSIDE);
            CHECK.due("heaps(" + n + ", 1)", x.heaps(n, 1), OUTSIDE);
        }
        for (int what : new int[] {LEAST, -1, 2, MOST}) {
            CHECK.due("heaps(0, " + what + ")", x.heaps(0, what), OUTSIDE);
            CHECK.due("heaps(60, " + what + ")", x.heaps(60, what), OUTSIDE);
        }
        for (int n = 0; n <= 2; n++) {
            CHECK.due(n + " can not be parted", x.heaps(n, 0), 0);
            CHECK.due(n + " can not be parted", x.heaps(n, 1), NONE);
        }
        CHECK.due("3 is parted once", x.heaps(3, 0), 1);
        CHECK.due("1 and 2", x.heaps(3, 1), 1);
        CHECK.due("4 leaves 3", x.heaps(4, 0), 0);
        CHECK.due("4 leaves 3", x.heaps(4, 1), NONE);
    }

    /** "how many are in the less of both that he makes first for it, the least (NONE)": of each n. */
    private static void theLessTheLeast() {
        // What Grundy's game is worth by n; a parting wins if both parts are worth as much.
        String worth = "0001021021021321324304304304123124124124154154154102102152132";
        PaleMoor x = new PaleMoor();
        CHECK.due("n from 0 to 60", worth.length(), 61);
        for (int n = 0; n <= 60; n++) {
            int less = 1;
            while (2 * less < n && worth.charAt(less) != worth.charAt(n - less)) {
                less++;
            }
            boolean wins = 2 * less < n;
            CHECK.due("worth of " + n, wins ? 1 : 0, worth.charAt(n) == '0' ? 0 : 1);
            CHECK.due("heaps(" + n + ", 0)", x.heaps(n, 0), wins ? 1 : 0);
            CHECK.due("heaps(" + n + ", 1)", x.heaps(n, 1), wins ? less : NONE);
        }
    }

    /** "n winds (1 to 12) are each 1 to m (1 to 9)", "just k (1 to m)", OUTSIDE, "LOST and the refusal". */
    private static void gustBounds() {
        int[] far = {LEAST, -1, MOST};
        for (int no : far) {
            PaleMoor x = new PaleMoor();
            CHECK.due("n " + no, x.gust(no, 5, 3, 0, 0), REFUSED);
            CHECK.due("m " + no, x.gust(5, no, 1, 0, 0), REFUSED);
            CHECK.due("k " + no, x.gust(5, 5, no, 1, 0), REFUSED);
            CHECK.due("what " + no, x.gust(5, 5, 3, no, 0), REFUSED);
            CHECK.due("part " + no, x.gust(5, 5, 3, 0, no), REFUSED);
            CHECK.due("m and k " + no, x.gust(1, no, no, 0, 0), REFUSED);
        }
        for (int n = 0; n <= 13; n++) {
            PaleMoor x = new PaleMoor();
            for (int m = 0; m <= 10; m++) {
                for (int k : new int[] {0, 1, m, m + 1}) {
                    boolean may = n >= 1 && n <= 12 && m >= 1 && m <= 9 && k >= 1 && k <= m;
                    String of = "(" + n + ", " + m + ", " + k + ")";
                    CHECK.due("just, refused or not " + of, x.gust(n, m, k, 0, 1) == REFUSED ? 0 : 1, may ? 1 : 0);
                    CHECK.due("mean, refused or not " + of, x.gust(n, m, k, 1, 0) == REFUSED ? 0 : 1, may ? 1 : 0);
                }
            }
        }
        PaleMoor x = new PaleMoor();
        for (int what = -1; what <= 2; what++) {
            for (int part = -1; part <= 2; part++) {
                boolean may = (what == 0 || what == 1) && (part == 0 || part == 1);
                CHECK.due("what " + what + " part " + part, x.gust(1, 1, 1, what, part), may ? 1 : REFUSED);
            }
        }
        CHECK.due("LOST and OUTSIDE", PaleMoor.LOST + PaleMoor.OUTSIDE, REFUSED);
    }

    private static void gustIs(int n, int m, int k, int what, long upper, long lower) {
        PaleMoor x = new PaleMoor();
        String of = "gust(" + n + ", " + m + ", " + k + ", " + what + ")";
        CHECK.due(of + " upper", x.gust(n, m, k, what, 0), upper);
        CHECK.due(of + " lower", x.gust(n, m, k, what, 1), lower);
    }

    /** "that the strongest is just k": the least and the most of n, of m and of k. */
    private static void gustEdges() {
        gustIs(1, 1, 1, 0, 1, 1);
        gustIs(1, 9, 1, 0, 1, 9);
        gustIs(1, 9, 9, 0, 1, 9);
        gustIs(12, 1, 1, 0, 1, 1);
        gustIs(12, 2, 1, 0, 1, 4096);
        gustIs(12, 2, 2, 0, 4095, 4096);
        gustIs(12, 9, 1, 0, 1, 282429536481L);
        gustIs(12, 9, 2, 0, 455, 31381059609L);
        gustIs(12, 9, 9, 0, 213710059745L, 282429536481L);
        gustIs(2, 3, 2, 0, 1, 3);
        gustIs(2, 9, 5, 0, 1, 9);
    }

    /** "how strong it is in the mean (k is no matter, but as told)". */
    private static void gustOfTheMean() {
        for (int k = 1; k <= 9; k++) {
            gustIs(1, 9, k, 1, 5, 1);
            gustIs(12, 9, k, 1, 818955609559L, 94143178827L);
        }
        gustIs(1, 1, 1, 1, 1, 1);
        gustIs(12, 1, 1, 1, 1, 1);
        gustIs(1, 2, 2, 1, 3, 2);
        gustIs(2, 2, 1, 1, 7, 4);
        gustIs(12, 2, 1, 1, 8191, 4096);
        CHECK.due("k below", new PaleMoor().gust(2, 2, 0, 1, 0), REFUSED);
        CHECK.due("k above", new PaleMoor().gust(2, 2, 3, 1, 1), REFUSED);
    }

    /** "by a seed (0 to 9999) of m ACTS (1 to 99)", OUTSIDE. */
    private static void yearBounds() {
        int[] seeds = {LEAST, -1, 0, 1, 9998, 9999, 10000, 10001, MOST};
        int[] acts = {LEAST, -1, 0, 1, 2, 98, 99, 100, 101, MOST};
        int[] whats = {LEAST, -1, 0, 1, 2, 3, MOST};
        for (int seed : seeds) {
            for (int m : acts) {
                PaleMoor x = new PaleMoor();
                for (int what : whats) {
                    boolean may = seed >= 0 && seed <= 9999 && m >= 1 && m <= 99 && what >= 0 && what <= 2;
                    CHECK.due("year(" + seed + ", " + m + ", " + what + ")", x.year(seed, m, what),
                        !may ? OUTSIDE : what == 2 ? 5 : 0);
                }
            }
        }
    }

    private static void yearIs(PaleMoor x, int seed, int m, int gaps, int men, int cows) {
        String of = "year(" + seed + ", " + m + ", ";
        CHECK.due(of + "0)", x.year(seed, m, 0), gaps);
        CHECK.due(of + "1)", x.year(seed, m, 1), men);
        CHECK.due(of + "2)", x.year(seed, m, 2), cows);
    }

    /** "0 to 2 he goes .., 3 he mends, 4 he breaks .., 5 a wind .., 6, 7 a day": one act each, by man A. */
    private static void actsOfAYear() {
        // x is 224, 1799, 3374; z is 4, 32, 60: each time A goes to e, by the one road there is.
        for (int seed : new int[] {2, 23, 44}) {
            PaleMoor x = new PaleMoor();
            x.road(0, 4, 9);
            yearIs(x, seed, 1, 0, 1, 5);
            x.farm(0, 5, 4);
            yearIs(x, seed, 1, 0, 1, 5);
        }
        // x is 749: A mends, being at g.
        PaleMoor x = new PaleMoor();
        x.pale(0, 6, 0);
        x.farm(0, 5, 6);
        yearIs(x, 9, 1, 0, 1, 5);
        // x is 2324, z 41: A breaks the pale to g.
        x = new PaleMoor();
        x.pale(0, 6, 1);
        yearIs(x, 30, 1, 1, 0, 5);
        // x is 1274, 2849: days; a cow goes from a to b.
        for (int seed : new int[] {16, 37}) {
            x = new PaleMoor();
            x.pale(0, 1, 0);
            x.farm(0, 99, 0);
            yearIs(x, seed, 1, 1, 0, 98);
        }
    }

    /** "each if that can be": the same acts, where they can not be. */
    private static void actsThatCanNotBe() {
        for (int seed : new int[] {2, 23, 44}) {
            PaleMoor x = new PaleMoor();
            x.road(0, 3, 9);
            x.road(3, 4, 9);
            yearIs(x, seed, 1, 0, 0, 5);
        }
        PaleMoor x = new PaleMoor();
        x.pale(0, 6, 0);
        yearIs(x, 9, 1, 1, 0, 5);
        x.farm(0, 5, 5);
        yearIs(x, 9, 1, 1, 1, 5);
        x = new PaleMoor();
        x.pale(0, 6, 1);
        x.farm(0, 5, 6);
        yearIs(x, 30, 1, 0, 1, 5);
        x.pale(0, 6, -1);
        x.farm(0, 5, 0);
        yearIs(x, 30, 1, 0, 0, 5);
        yearIs(x, 51, 1, 0, 0, 5);
    }

    /** "a wind of 1 more than (z left over by 3)": 1, 2 and 3, each on pales of 1 to 4. */
    private static void winds1To3() {
        // z is 69, 10, 2.
        int[] seeds = {51, 7, 1};
        for (int wind = 1; wind <= 3; wind++) {
            PaleMoor x = new PaleMoor();
            for (int s = 1; s <= 4; s++) {
                x.pale(0, s, s);
            }
            yearIs(x, seeds[wind - 1], 1, wind, 0, 5);
        }
    }

    /** "(75 x and 74) left over by 65537": the last seed below it, the first above it, the ends of what is left. */
    private static void leftOverBy65537() {
        // Seed, and the one road by which its one act can be: x is 65474, 12, 65529, 2.
        int[][] rows = {{872, 3, 0}, {873, 5, 0}, {9611, 2, 1}, {5242, 2, 0}};
        for (int[] row : rows) {
            PaleMoor x = new PaleMoor();
            x.road(row[1], row[2], 1);
            yearIs(x, row[0], 1, 0, 1, 5);
        }
        // Seed 9999: x is 749999 less 11 times 65537, 29092: A breaks the pale to b.
        PaleMoor x = new PaleMoor();
        x.pale(0, 1, 1);
        yearIs(x, 9999, 1, 1, 0, 5);
        // Seed 11: 899, D goes to c; then 67499, left over 1962: C goes to a.
        x = new PaleMoor();
        x.road(3, 2, 1);
        x.road(2, 0, 1);
        yearIs(x, 11, 1, 0, 1, 5);
        yearIs(x, 11, 2, 0, 2, 5);
    }

    /** One gap between a, of 99 cows, and b, of none: each day of a year is a cow that a has fewer. */
    private static PaleMoor counting() {
        PaleMoor x = new PaleMoor();
        x.pale(0, 1, 0);
        x.farm(0, 99, 0);
        x.farm(1, 0, 1);
        return x;
    }

    /** "of m ACTS": those that can not be count, too; the 99th is one of them. */
    private static void mActs() {
        yearIs(counting(), 4, 97, 1, 0, 99 - 17);
        yearIs(counting(), 4, 98, 1, 0, 99 - 18);
        yearIs(counting(), 4, 99, 1, 0, 99 - 19);
        yearIs(counting(), 9999, 99, 1, 0, 99 - 28);
        yearIs(counting(), 0, 99, 1, 0, 99 - 30);
        yearIs(counting(), 0, 2, 1, 0, 99);
        yearIs(counting(), 3, 1, 1, 0, 99);
        yearIs(counting(), 3, 2, 1, 0, 98);
    }

    /** A year's days end with day 99, as others do. */
    private static void daysOfAYearEndWith99() {
        for (int days = 30; days <= 39; days++) {
            PaleMoor x = new PaleMoor();
            Check.put(x, ".".repeat(60)).done();
            Check.put(x, ".".repeat(days)).done();
            x.pale(0, 1, 0);
            x.farm(0, 99, 0);
            x.farm(1, 0, 1);
            CHECK.due("the day", x.told(3), 60 + days);
            CHECK.due("30 days of a year by then", x.year(0, 99, 2), 99 - (39 - days));
            CHECK.due("one day of a year by then", x.year(16, 1, 2), days == 39 ? 99 : 98);
            CHECK.due("the day is as it was", x.told(3), 60 + days);
        }
    }

    /** "from all as it is", "Nothing is DONE in fact": not from what is on the pad, and the same again. */
    private static void fromAllAsItIs() {
        PaleMoor x = counting();
        Check.put(x, "..w1");
        yearIs(x, 4, 99, 1, 0, 99 - 19);
        yearIs(x, 4, 99, 1, 0, 99 - 19);
        CHECK.due("cows", x.told(20), 99);
        CHECK.due("day", x.told(3), 0);
        CHECK.due("signs", x.told(0), 4);
        CHECK.due("done", x.done(), 3);
        yearIs(x, 4, 99, 1, 0, 97 - 19);
        x.farm(5, 5, 6);
        x.pale(5, 6, 0);
        yearIs(x, 4, 1, 2, 1, 97);
    }
}
