/** Promises 14 to 17: round, mends, steady, wed. */
public final class RoundsTest {
    private static final Check CHECK = new Check();

    public static void main(String[] args) {
        ways();
        mending();
        weddings();
        weddingRefusals();
        CHECK.end();
    }

    private static void ways() {
        PaleMoor x = Check.moor();
        CHECK.due("by the third", x.round(0, 1), 5);
        CHECK.due("back", x.round(1, 0), 5);
        CHECK.due("by two", x.round(0, 2), 9);
        CHECK.due("to itself", x.round(4, 4), 0);
        CHECK.due("no way", x.round(0, 6), PaleMoor.NONE);
        for (int no : new int[] {-1, 7, Integer.MIN_VALUE, Integer.MAX_VALUE}) {
            CHECK.due("unknown", x.round(no, 0), PaleMoor.UNKNOWN);
            CHECK.due("unknown", x.round(0, no), PaleMoor.UNKNOWN);
            CHECK.due("unknown", x.round(no, no), PaleMoor.UNKNOWN);
            CHECK.due("unknown", x.mends(no), PaleMoor.UNKNOWN);
        }
        PaleMoor chain = new PaleMoor();
        int[] order = {3, 0, 6, 1, 5, 2, 4};
        for (int i = 0; i < 6; i++) {
            chain.road(order[i], order[i + 1], 9);
        }
        CHECK.due("the longest", chain.round(3, 4), 54);
        chain.road(3, 4, 0);
        CHECK.due("no road was there", chain.round(4, 3), 54);
        chain.road(6, 1, 0);
        CHECK.due("cut", chain.round(4, 3), PaleMoor.NONE);
        Check.put(x, "Ab");
        x.done();
        CHECK.due("men are no matter", x.round(0, 1), 5);
    }

    private static void mending() {
        PaleMoor x = Check.moor();
        CHECK.due("a", x.mends(0), 10);
        CHECK.due("b: to a and to c", x.mends(1), 18);
        CHECK.due("c: not a, which is 9", x.mends(2), 8);
        CHECK.due("no pale", x.mends(3), 0);
        x.farm(0, 5, 1);
        CHECK.due("from home, not from where he is", x.mends(0), 10);
        x.pale(0, 6, 9);
        CHECK.due("a sound one is no matter", x.mends(0), 10);
        x.pale(0, 6, 8);
        CHECK.due("not to be reached", x.mends(0), PaleMoor.NONE);
        CHECK.due("nor from there", x.mends(6), PaleMoor.NONE);
        PaleMoor star = new PaleMoor();
        for (int farm = 1; farm < 7; farm++) {
            star.pale(0, farm, 0);
            star.road(0, farm, 9);
        }
        CHECK.due("home between all", star.mends(0), 108);
        for (int farm = 1; farm < 6; farm++) {
            star.road(farm, farm + 1, 1);
        }
        CHECK.due("one after another", star.mends(0), 23);
        star.road(0, 3, 1);
        star.road(0, 4, 1);
        // a d c b c d e f g f e a
        CHECK.due("both arms", star.mends(0), 11);
    }

    private static void pairs(PaleMoor x, int best, int... others) {
        for (int one = 0; one < 4; one++) {
            CHECK.due("wed 0 " + one + " best " + best, x.wed(0, one, best), others[one]);
            CHECK.due("wed 1 " + others[one] + " best " + best, x.wed(1, others[one], best), one);
        }
    }

    private static void weddings() {
        PaleMoor x = new PaleMoor();
        CHECK.due("all alike", x.steady(), 1);
        pairs(x, 0, 0, 1, 2, 3);
        pairs(x, 1, 0, 1, 2, 3);
        int[] ten = {123, 1032, 2301, 3210};
        int[] back = {3210, 2301, 1032, 123};
        for (int one = 0; one < 4; one++) {
            x.likes(0, one, ten[one]);
            x.likes(1, one, back[one]);
        }
        CHECK.due("the most there can be", x.steady(), 10);
        pairs(x, 0, 0, 1, 2, 3);
        pairs(x, 1, 3, 2, 1, 0);
        x.likes(0, 0, 3120);
        x.likes(0, 1, 2031);
        x.likes(0, 2, 1302);
        x.likes(0, 3, 213);
        CHECK.due("both like it", x.steady(), 1);
        pairs(x, 0, 3, 2, 1, 0);
        pairs(x, 1, 3, 2, 1, 0);
    }

    private static void weddingRefusals() {
        PaleMoor x = new PaleMoor();
        CHECK.due("side", x.wed(2, 0, 0), PaleMoor.UNKNOWN);
        CHECK.due("side", x.wed(-1, 0, 2), PaleMoor.UNKNOWN);
        CHECK.due("one", x.wed(0, 4, 0), PaleMoor.UNKNOWN);
        CHECK.due("one", x.wed(1, -1, 9), PaleMoor.UNKNOWN);
        CHECK.due("best", x.wed(0, 0, 2), PaleMoor.OUTSIDE);
        CHECK.due("best", x.wed(1, 3, -1), PaleMoor.OUTSIDE);
    }
}
