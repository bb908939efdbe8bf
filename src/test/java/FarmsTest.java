/** Promises 1 to 8: a new object, pale, road, farm, likes, say, wipe, fault. */
public final class FarmsTest {
    private static final Check CHECK = new Check();
    private static final int[] NOT_FARMS = {-1, 7, Integer.MIN_VALUE, Integer.MAX_VALUE};

    public static void main(String[] args) {
        newObject();
        pales();
        roads();
        farms();
        rows();
        signs();
        faults();
        CHECK.end();
    }

    private static void newObject() {
        PaleMoor x = new PaleMoor();
        for (int what = 0; what <= 4; what++) {
            CHECK.due("new: told " + what, x.told(what), 0);
        }
        for (int a = 0; a < 7; a++) {
            CHECK.due("new: at", x.told(10 + a), a);
            CHECK.due("new: cows", x.told(20 + a), 5);
            for (int b = 0; b < 7; b++) {
                CHECK.due("new: pale", x.told(100 + 10 * a + b), PaleMoor.NONE);
                CHECK.due("new: road", x.told(200 + 10 * a + b), 0);
            }
        }
        for (int one = 0; one < 4; one++) {
            CHECK.due("new: row", x.told(30 + one), 123);
            CHECK.due("new: row", x.told(40 + one), 123);
        }
        CHECK.due("new: restore", x.restore(0), PaleMoor.STATE);
        CHECK.due("new: restore", x.restore(1), PaleMoor.STATE);
        CHECK.due("new: posts", x.posts(-1), 410);
    }

    private static void pales() {
        PaleMoor x = new PaleMoor();
        CHECK.due("no pale taken away", x.pale(2, 4, -1), 0);
        CHECK.due("a gap is a pale", x.pale(2, 4, 0), 1);
        CHECK.due("another", x.pale(6, 0, 9), 2);
        CHECK.due("the same from the other side", x.pale(4, 2, 7), 2);
        CHECK.due("strength", x.told(124), 7);
        CHECK.due("strength", x.told(142), 7);
        CHECK.due("strength", x.told(106), 9);
        CHECK.due("gaps", x.told(1), 0);
        for (int no : NOT_FARMS) {
            CHECK.due("unknown a", x.pale(no, 1, 3), PaleMoor.UNKNOWN);
            CHECK.due("unknown b", x.pale(1, no, 3), PaleMoor.UNKNOWN);
            CHECK.due("unknown ahead of outside", x.pale(no, 1, 10), PaleMoor.UNKNOWN);
        }
        CHECK.due("one and the same", x.pale(3, 3, 3), PaleMoor.UNKNOWN);
        CHECK.due("one ahead of outside", x.pale(3, 3, 10), PaleMoor.UNKNOWN);
        CHECK.due("too strong", x.pale(2, 4, 10), PaleMoor.OUTSIDE);
        CHECK.due("too weak", x.pale(2, 4, -2), PaleMoor.OUTSIDE);
        CHECK.due("refused, nothing changed", x.told(124), 7);
        CHECK.due("taken away", x.pale(4, 2, -1), 1);
        CHECK.due("none", x.told(124), PaleMoor.NONE);
        for (int a = 0; a < 7; a++) {
            for (int b = 0; b < a; b++) {
                x.pale(a, b, 0);
            }
        }
        CHECK.due("all", x.pale(0, 1, 0), 21);
        CHECK.due("all gaps", x.told(1), 21);
    }

    private static void roads() {
        PaleMoor x = new PaleMoor();
        CHECK.due("new road", x.road(5, 1, 9), 0);
        CHECK.due("shorter", x.road(1, 5, 1), 9);
        CHECK.due("miles", x.told(251), 1);
        CHECK.due("miles", x.told(215), 1);
        for (int no : NOT_FARMS) {
            CHECK.due("unknown a", x.road(no, 1, 3), PaleMoor.UNKNOWN);
            CHECK.due("unknown b", x.road(1, no, 10), PaleMoor.UNKNOWN);
        }
        CHECK.due("one and the same", x.road(0, 0, 1), PaleMoor.UNKNOWN);
        CHECK.due("too long", x.road(1, 5, 10), PaleMoor.OUTSIDE);
        CHECK.due("too short", x.road(1, 5, -1), PaleMoor.OUTSIDE);
        CHECK.due("gone", x.road(1, 5, 0), 1);
        CHECK.due("was gone", x.road(1, 5, 0), 0);
    }

    private static void farms() {
        PaleMoor x = new PaleMoor();
        CHECK.due("was at home", x.farm(3, 99, 6), 3);
        CHECK.due("was away", x.farm(3, 0, 3), 6);
        CHECK.due("cows", x.told(23), 0);
        x.farm(3, 99, 0);
        for (int no : NOT_FARMS) {
            CHECK.due("unknown farm", x.farm(no, 5, 0), PaleMoor.UNKNOWN);
            CHECK.due("unknown place", x.farm(3, 5, no), PaleMoor.UNKNOWN);
            CHECK.due("unknown ahead of outside", x.farm(3, 100, no), PaleMoor.UNKNOWN);
        }
        CHECK.due("too many", x.farm(3, 100, 1), PaleMoor.OUTSIDE);
        CHECK.due("too few", x.farm(3, -1, 1), PaleMoor.OUTSIDE);
        CHECK.due("refused, cows as before", x.told(23), 99);
        CHECK.due("refused, place as before", x.told(13), 0);
        CHECK.due("away", x.told(2), 8);
    }

    private static void rows() {
        PaleMoor x = new PaleMoor();
        CHECK.due("first row", x.likes(0, 0, 3210), 123);
        CHECK.due("row before", x.likes(0, 0, 123), 3210);
        CHECK.due("other side", x.likes(1, 3, 2031), 123);
        CHECK.due("told", x.told(43), 2031);
        CHECK.due("told", x.told(33), 123);
        int[] none = {0, 122, 124, 3211, 1234, 1123, 333, 10123, -123, 3330, Integer.MAX_VALUE, Integer.MIN_VALUE};
        for (int row : none) {
            CHECK.due("no row " + row, x.likes(1, 3, row), PaleMoor.OUTSIDE);
        }
        CHECK.due("no side", x.likes(2, 0, 1), PaleMoor.UNKNOWN);
        CHECK.due("no side", x.likes(-1, 0, 123), PaleMoor.UNKNOWN);
        CHECK.due("no one", x.likes(1, 4, 123), PaleMoor.UNKNOWN);
        CHECK.due("no one", x.likes(1, -1, 1), PaleMoor.UNKNOWN);
        CHECK.due("refused, as before", x.told(43), 2031);
        int rows = 0;
        for (int row = 0; row < 10000; row++) {
            rows += new PaleMoor().likes(0, 0, row) == 123 ? 1 : 0;
        }
        CHECK.due("rows there are", rows, 24);
    }

    private static void signs() {
        PaleMoor x = new PaleMoor();
        CHECK.due("nothing to wipe", x.wipe(), 0);
        CHECK.due("below", x.say(32), PaleMoor.OUTSIDE);
        CHECK.due("above", x.say(127), PaleMoor.OUTSIDE);
        CHECK.due("first", x.say(33), 1);
        CHECK.due("second", x.say(126), 2);
        for (int i = 3; i <= 60; i++) {
            CHECK.due("sign", x.say('.'), i);
        }
        CHECK.due("full", x.say('.'), PaleMoor.FULL);
        CHECK.due("outside ahead of full", x.say(0), PaleMoor.OUTSIDE);
        CHECK.due("signs", x.told(0), 60);
        CHECK.due("wiped", x.wipe(), 60);
        CHECK.due("signs", x.told(0), 0);
        CHECK.due("again", x.say('.'), 1);
    }

    private static void faults() {
        PaleMoor x = new PaleMoor();
        String[] good = {"", ".", "Aa", "Gg", "A*", "G!g", "A!a", "w1", "w9", "AaA*A!b.w5..Gb"};
        for (String text : good) {
            CHECK.due(text, Check.put(x, text).fault(), PaleMoor.NONE);
        }
        Object[][] bad = {
            {"A", 1}, {"A!", 2}, {"w", 1}, {"..A", 3}, {"AaA!", 4}, {"H", 0}, {"@", 0}, {"a", 0}, {"*", 0}, {"!", 0},
            {"1", 0}, {"AA", 1}, {"Ah", 1}, {"A`", 1}, {"A.", 1}, {"A!!", 2}, {"A!*", 2}, {"A!A", 2}, {"A!h", 2},
            {"w0", 1}, {"w:", 1}, {"wa", 1}, {"w1w", 3}, {"w11", 2}, {"Aab", 2}, {"A**", 2}, {"A!bc", 3}, {".x.", 1},
            {"W1", 0}, {"w/", 1}};
        for (Object[] row : bad) {
            CHECK.due((String) row[0], Check.put(x, (String) row[0]).fault(), (Integer) row[1]);
        }
        Check.put(x, ".".repeat(59) + "A");
        CHECK.due("more must come on a full pad", x.fault(), 60);
        Check.put(x, ".".repeat(59) + "b");
        CHECK.due("last sign", x.fault(), 59);
    }
}
