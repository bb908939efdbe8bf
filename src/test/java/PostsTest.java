/** Promises 18 to 24: seen, forget, posts, ask, heaps, gust, year. */
public final class PostsTest {
    private static final Check CHECK = new Check();

    public static void main(String[] args) {
        sights();
        questions();
        rails();
        gusts();
        gustRefusals();
        years();
        yearRefusals();
        CHECK.end();
    }

    private static void sights() {
        PaleMoor x = new PaleMoor();
        CHECK.due("no such day", x.seen(6, 0, true), PaleMoor.OUTSIDE);
        CHECK.due("no such day", x.seen(-1, 0, true), PaleMoor.OUTSIDE);
        CHECK.due("no such post", x.seen(0, 100, false), PaleMoor.OUTSIDE);
        CHECK.due("no such post", x.seen(0, -1, false), PaleMoor.OUTSIDE);
        CHECK.due("nothing seen", x.told(4), 0);
        CHECK.due("first", x.seen(5, 85, true), 1);
        CHECK.due("the utmost", x.posts(-1), 1);
        CHECK.due("the utmost", x.posts(0), 409);
        CHECK.due("no more", x.posts(1), PaleMoor.NONE);
        CHECK.due("below", x.posts(-2), PaleMoor.NONE);
        CHECK.due("far below", x.posts(Integer.MIN_VALUE), PaleMoor.NONE);
        CHECK.due("far above", x.posts(Integer.MAX_VALUE), PaleMoor.NONE);
        CHECK.due("forgotten", x.forget(), 1);
        CHECK.due("all again", x.posts(-1), 410);
        CHECK.due("post 40 on day 0", x.seen(0, 40, true), 1);
        CHECK.due("p is 40", x.posts(0), 400);
        CHECK.due("p is 40", x.posts(-1), 10);
        CHECK.due("not as far as 58 behind 2 days", x.seen(2, 58, false), 2);
        CHECK.due("w is below 9", x.posts(-1), 9);
        CHECK.due("as far as 46 behind 3 days", x.seen(3, 46, true), 3);
        CHECK.due("w is 2 at least", x.posts(0), 402);
        CHECK.due("nothing ahead of p", x.seen(5, 39, false), 4);
        CHECK.due("as before", x.posts(-1), 7);
        for (int i = 5; i <= 8; i++) {
            CHECK.due("again", x.seen(5, 39, false), i);
        }
        CHECK.due("full", x.seen(5, 39, true), PaleMoor.FULL);
        CHECK.due("outside ahead of full", x.seen(5, 100, true), PaleMoor.OUTSIDE);
        CHECK.due("refused, as before", x.posts(-1), 7);
        CHECK.due("sights", x.told(4), 8);
        CHECK.due("forgotten", x.forget(), 8);
        CHECK.due("none left", x.forget(), 0);
    }

    private static void questions() {
        PaleMoor x = new PaleMoor();
        CHECK.due("outside", x.ask(2), PaleMoor.OUTSIDE);
        CHECK.due("outside", x.ask(-1), PaleMoor.OUTSIDE);
        CHECK.due("of all", x.ask(0), 530);
        CHECK.due("of all", x.ask(1), 205);
        x.seen(0, 40, true);
        // w 0 to 9: behind 1 day 45 is down for w 5 to 9.
        CHECK.due("halves", x.ask(0), 145);
        CHECK.due("halves", x.ask(1), 5);
        x.seen(1, 49, true);
        CHECK.due("one fits: any post does", x.ask(0), 0);
        CHECK.due("one fits: one is left", x.ask(1), 1);
        x.seen(0, 0, true);
        CHECK.due("nothing fits", x.ask(0), PaleMoor.NONE);
        CHECK.due("nothing fits", x.ask(1), PaleMoor.NONE);
        CHECK.due("outside ahead", x.ask(2), PaleMoor.OUTSIDE);
    }

    private static void rails() {
        PaleMoor x = new PaleMoor();
        // The heaps up to 60 that are lost for who begins in Grundy's game.
        String lost = " 0 1 2 4 7 10 20 23 26 50 53 ";
        for (int n = 0; n <= 60; n++) {
            boolean loses = lost.contains(" " + n + " ");
            CHECK.due("heaps " + n, x.heaps(n, 0), loses ? 0 : 1);
            CHECK.due("heaps " + n + " less", x.heaps(n, 1) == PaleMoor.NONE ? 1 : 0, loses ? 1 : 0);
        }
        CHECK.due("3 is 1 and 2", x.heaps(3, 1), 1);
        CHECK.due("6 is 2 and 4", x.heaps(6, 1), 2);
        CHECK.due("60", x.heaps(60, 1), 7);
        CHECK.due("below", x.heaps(-1, 0), PaleMoor.OUTSIDE);
        CHECK.due("above", x.heaps(61, 1), PaleMoor.OUTSIDE);
        CHECK.due("what", x.heaps(5, 2), PaleMoor.OUTSIDE);
        CHECK.due("what", x.heaps(5, -1), PaleMoor.OUTSIDE);
    }

    private static void gusts() {
        PaleMoor x = new PaleMoor();
        CHECK.due("upper", x.gust(2, 6, 6, 0, 0), 11);
        CHECK.due("lower", x.gust(2, 6, 6, 0, 1), 36);
        CHECK.due("lowest terms", x.gust(2, 6, 2, 0, 0), 1);
        CHECK.due("lowest terms", x.gust(2, 6, 2, 0, 1), 12);
        CHECK.due("mean", x.gust(1, 9, 1, 1, 0), 5);
        CHECK.due("mean", x.gust(1, 9, 1, 1, 1), 1);
        CHECK.due("k is no matter", x.gust(2, 6, 1, 1, 0), 161);
        CHECK.due("k is no matter", x.gust(2, 6, 6, 1, 1), 36);
        CHECK.due("one strength", x.gust(12, 1, 1, 0, 0), 1);
        CHECK.due("one strength", x.gust(12, 1, 1, 0, 1), 1);
        CHECK.due("most", x.gust(12, 9, 9, 0, 0), 282429536481L - 68719476736L);
        CHECK.due("most", x.gust(12, 9, 9, 0, 1), 282429536481L);
    }

    private static void gustRefusals() {
        PaleMoor x = new PaleMoor();
        long refused = PaleMoor.LOST + PaleMoor.OUTSIDE;
        int[][] wrong = {
            {0, 5, 1, 0, 0}, {13, 5, 1, 0, 0}, {1, 0, 1, 0, 0}, {1, 10, 1, 0, 0}, {1, 5, 0, 0, 0}, {1, 5, 6, 0, 0},
            {1, 5, 6, 1, 0}, {1, 5, 0, 1, 1}, {1, 5, 5, 2, 0}, {1, 5, 5, -1, 0}, {1, 5, 5, 0, 2}, {1, 5, 5, 0, -1},
            {Integer.MIN_VALUE, Integer.MAX_VALUE, 1, 0, 0}};
        for (int[] w : wrong) {
            CHECK.due("gust refused", x.gust(w[0], w[1], w[2], w[3], w[4]), refused);
        }
    }

    private static void yearIs(PaleMoor x, int seed, int m, int gaps, int men, int cows) {
        String year = "year(" + seed + ", " + m;
        CHECK.due(year + ", 0)", x.year(seed, m, 0), gaps);
        CHECK.due(year + ", 1)", x.year(seed, m, 1), men);
        CHECK.due(year + ", 2)", x.year(seed, m, 2), cows);
    }

    /** One act by a seed: x = 75 seed + 74, man x % 7, lot x / 7 % 8, z = x / 56. */
    private static void years() {
        PaleMoor x = new PaleMoor();
        for (int a = 0; a < 7; a++) {
            for (int b = 0; b < a; b++) {
                x.pale(a, b, 1);
                x.road(a, b, 1);
            }
        }
        // Seed 0: x 74, man 4, lot 2, z 1: e goes to b.
        yearIs(x, 0, 1, 0, 1, 5);
        // Then x 5624, man 3, lot 3, z 100: d is at home and can not mend.
        yearIs(x, 0, 2, 0, 1, 5);
        // Seed 11: x 899, man 3, lot 0, z 16: d goes to c.
        yearIs(x, 11, 1, 0, 1, 5);
        // Seed 1: x 149, lot 5, z 2: a wind of 3.
        yearIs(x, 1, 1, 21, 0, 5);
        // Seed 4: x 374, man 3, lot 5, z 6: a wind of 1.
        yearIs(x, 4, 1, 21, 0, 5);
        x.pale(0, 1, 3);
        x.pale(0, 2, 4);
        yearIs(x, 1, 1, 20, 0, 5);
        yearIs(x, 4, 1, 19, 0, 5);
        x.pale(0, 1, 1);
        x.pale(0, 2, 1);
        // Seed 3: x 299, man 5, lot 2, z 5: f is there already.
        yearIs(x, 3, 1, 0, 0, 5);
        // Seed 5: x 449, man 1, lot 0, z 8: b is there already.
        yearIs(x, 5, 1, 0, 0, 5);
        // Seed 20: x 1574, man 6, lot 0, z 28: g goes to a.
        yearIs(x, 20, 1, 0, 1, 5);
        // Seed 16: x 1274, man 0, lot 6: a day.
        x.pale(0, 6, 0);
        x.farm(6, 9, 6);
        yearIs(x, 16, 1, 1, 0, 6);
        // Seed 12: x 974, man 1, lot 3, z 17: b, away at a, mends.
        x.pale(0, 1, 0);
        x.farm(1, 5, 0);
        yearIs(x, 12, 1, 1, 1, 5);
        x.farm(1, 5, 1);
        // Seed 6: x 524, man 6, lot 2, z 9: g goes to c.
        yearIs(x, 6, 1, 2, 1, 5);
        // Seed 30: x 2324, man 0, lot 4, z 41: a breaks ag, a gap already.
        yearIs(x, 30, 1, 2, 0, 5);
        x.pale(0, 6, 1);
        yearIs(x, 30, 1, 2, 0, 5);
        x.pale(0, 6, 2);
        yearIs(x, 30, 1, 1, 0, 5);
        CHECK.due("nothing is done in fact", x.told(106), 2);
        CHECK.due("nothing is done in fact", x.told(2), 0);
        Check.put(x, "Ab");
        yearIs(x, 30, 1, 1, 0, 5);
        CHECK.due("the pad is no matter", x.told(0), 2);
    }

    private static void yearRefusals() {
        PaleMoor x = new PaleMoor();
        int[][] wrong = {{-1, 1, 0}, {10000, 1, 0}, {0, 0, 0}, {0, 100, 0}, {0, 1, 3}, {0, 1, -1}};
        for (int[] w : wrong) {
            CHECK.due("year refused", x.year(w[0], w[1], w[2]), PaleMoor.OUTSIDE);
        }
        CHECK.due("the last seed", x.year(9999, 99, 2), 5);
    }
}
