/** The sentences of promises 14 to 17 (and of part 3) that name a boundary, each with a test. */
public final class RoundsBoundsTest {
    private static final Check CHECK = new Check();
    private static final int NONE = -6, UNKNOWN = -1, OUTSIDE = -2;
    private static final int LEAST = Integer.MIN_VALUE, MOST = Integer.MAX_VALUE;

    public static void main(String[] args) {
        roundToItself();
        roundUnknown();
        theLeastMiles();
        theLongestRound();
        roundNone();
        asThingsAreNow();
        mendsUnknown();
        ofLessStrengthThan9();
        noneSuch();
        mendsNone();
        whicheverIsNext();
        theLongestMending();
        fromHomeAndHomeAgain();
        fewestAndMostSteadyOnes();
        worstOfTheBest();
        noLessThanInAnyOther();
        sidesOnesAndBest();
        CHECK.end();
    }

    /** "(0 from a FARM to itself)": without roads, and with them. */
    private static void roundToItself() {
        PaleMoor x = new PaleMoor();
        for (int f = 0; f < 7; f++) {
            CHECK.due("no road", x.round(f, f), 0);
            x.road(f, (f + 1) % 7, 1);
            CHECK.due("a road", x.round(f, f), 0);
        }
    }

    /** "UNKNOWN: both". */
    private static void roundUnknown() {
        int[] numbers = {LEAST, -7, -1, 0, 6, 7, 13, MOST};
        PaleMoor x = new PaleMoor();
        x.road(0, 6, 9);
        for (int a : numbers) {
            for (int b : numbers) {
                boolean both = (a == 0 || a == 6) && (b == 0 || b == 6);
                CHECK.due("round(" + a + ", " + b + ")", x.round(a, b), !both ? UNKNOWN : a == b ? 0 : 9);
            }
        }
    }

    /** "the least MILES by ROADS": a straight road may be longer, as long, or less long than one by others. */
    private static void theLeastMiles() {
        PaleMoor x = new PaleMoor();
        x.road(0, 6, 9);
        x.road(0, 3, 4);
        x.road(3, 6, 4);
        CHECK.due("8 by the third", x.round(0, 6), 8);
        x.road(3, 6, 5);
        CHECK.due("9 either way", x.round(6, 0), 9);
        x.road(3, 6, 6);
        CHECK.due("9 straight", x.round(0, 6), 9);
        PaleMoor ring = new PaleMoor();
        for (int f = 0; f < 7; f++) {
            ring.road(f, (f + 1) % 7, 1);
        }
        int[] due = {0, 1, 2, 3, 3, 2, 1};
        for (int a = 0; a < 7; a++) {
            for (int b = 0; b < 7; b++) {
                CHECK.due("on the ring", ring.round(a, b), due[(b - a + 7) % 7]);
            }
        }
        ring.road(0, 6, 9);
        CHECK.due("six roads of 1 for one of 9", ring.round(0, 6), 6);
    }

    /** The longest there is: six roads of nine miles, whatever the order of the farms along them. */
    private static void theLongestRound() {
        int[][] orders = {{0, 1, 2, 3, 4, 5, 6}, {6, 5, 4, 3, 2, 1, 0}, {3, 6, 0, 5, 1, 4, 2}, {6, 0, 5, 1, 4, 2, 3}};
        for (int[] order : orders) {
            PaleMoor x = new PaleMoor();
            for (int i = 0; i < 6; i++) {
                x.road(order[i], order[i + 1], 9);
            }
            for (int i = 0; i < 7; i++) {
                for (int j = 0; j < 7; j++) {
                    CHECK.due("along the chain", x.round(order[i], order[j]), 9 * Math.abs(i - j));
                }
            }
        }
    }

    /** "ROUND ..; NONE": no road at all, two groups, a road that went. */
    private static void roundNone() {
        PaleMoor x = new PaleMoor();
        x.road(0, 1, 9);
        x.road(1, 2, 9);
        x.road(3, 4, 1);
        x.road(4, 5, 1);
        for (int a = 0; a < 7; a++) {
            for (int b = 0; b < 7; b++) {
                boolean joined = a == b || a < 3 && b < 3 || a >= 3 && b >= 3 && a < 6 && b < 6;
                CHECK.due("joined " + a + " " + b, x.round(a, b) == NONE ? 0 : 1, joined ? 1 : 0);
            }
        }
        x.road(2, 3, 5);
        CHECK.due("joined now", x.round(0, 5), 25);
        x.road(3, 2, 0);
        CHECK.due("and no more", x.round(0, 5), NONE);
    }

    /** "(As things are now.)": what is on the pad is not so yet; pales and men are no matter to a round. */
    private static void asThingsAreNow() {
        PaleMoor x = Check.moor();
        Check.put(x, "AbA*A*");
        CHECK.due("not mended yet", x.mends(0), 10);
        CHECK.due("round", x.round(0, 1), 5);
        x.done();
        CHECK.due("mended", x.mends(0), 0);
        Check.put(x, "w1");
        CHECK.due("not blown yet", x.mends(0), 0);
        x.done();
        CHECK.due("blown", x.mends(0), 18);
        CHECK.due("round as before", x.round(0, 1), 5);
    }

    /** "UNKNOWN". */
    private static void mendsUnknown() {
        PaleMoor x = new PaleMoor();
        for (int no : new int[] {LEAST, -7, -1, 7, 8, MOST}) {
            CHECK.due("mends(" + no + ")", x.mends(no), UNKNOWN);
        }
        CHECK.due("mends(0)", x.mends(0), 0);
        CHECK.due("mends(6)", x.mends(6), 0);
    }

    /** "a PALE of less STRENGTH than 9": 8 and a gap are, 9 and none are not. */
    private static void ofLessStrengthThan9() {
        for (int s = -1; s <= 9; s++) {
            PaleMoor x = new PaleMoor();
            x.road(0, 6, 7);
            x.pale(0, 6, s);
            int due = s >= 0 && s < 9 ? 14 : 0;
            CHECK.due("strength " + s, x.mends(0), due);
            CHECK.due("strength " + s + ", from the other side", x.mends(6), due);
            CHECK.due("strength " + s + ", not his", x.mends(3), 0);
        }
    }

    /** "(0: there is none such)": also of one who could not go anywhere, whose sound pale is out of reach. */
    private static void noneSuch() {
        PaleMoor x = new PaleMoor();
        x.pale(0, 1, 9);
        x.pale(2, 3, 0);
        CHECK.due("a sound one out of reach", x.mends(0), 0);
        CHECK.due("no pale", x.mends(4), 0);
        CHECK.due("one out of reach", x.mends(2), NONE);
        x.road(0, 1, 9);
        CHECK.due("a sound one is not gone to", x.mends(0), 0);
    }

    /** "MENDS ..; NONE": one of several out of reach is enough. */
    private static void mendsNone() {
        PaleMoor x = new PaleMoor();
        for (int f = 1; f < 7; f++) {
            x.pale(0, f, 8);
        }
        for (int f = 1; f < 6; f++) {
            x.road(0, f, 1);
            CHECK.due("not all", x.mends(0), NONE);
        }
        x.pale(0, 6, 9);
        CHECK.due("the last is sound", x.mends(0), 10);
        x.pale(0, 6, 8);
        CHECK.due("the last is not", x.mends(0), NONE);
        x.road(5, 6, 1);
        CHECK.due("all", x.mends(0), 12);
    }

    /** "(by ROADS, to whichever is next)": the order is his, farms may be met twice or by the way. */
    private static void whicheverIsNext() {
        PaleMoor x = new PaleMoor();
        x.pale(0, 1, 0);
        x.pale(0, 2, 0);
        x.pale(0, 3, 0);
        x.road(0, 3, 1);
        x.road(3, 1, 1);
        x.road(1, 2, 1);
        x.road(2, 0, 9);
        CHECK.due("back by the same way", x.mends(0), 6);
        x.road(2, 0, 1);
        CHECK.due("round", x.mends(0), 4);
        x.road(0, 3, 9);
        x.road(0, 1, 5);
        CHECK.due("by 2, 1, 3 and back", x.mends(0), 6);
        PaleMoor y = new PaleMoor();
        y.pale(3, 5, 4);
        y.road(3, 0, 2);
        y.road(0, 5, 2);
        y.road(3, 5, 5);
        CHECK.due("by one where nothing is to be mended", y.mends(3), 8);
    }

    /** The longest there is: a tree of six roads of nine miles, each gone twice. */
    private static void theLongestMending() {
        for (int home = 0; home < 7; home++) {
            PaleMoor star = new PaleMoor();
            PaleMoor chain = new PaleMoor();
            for (int f = 0; f < 7; f++) {
                if (f != home) {
                    star.pale(home, f, 8);
                    star.road(home, f, 9);
                    chain.pale(f, home, 0);
                }
                if (f < 6) {
                    chain.road(f, f + 1, 9);
                }
            }
            CHECK.due("a star round " + home, star.mends(home), 108);
            CHECK.due("one out of the star", star.mends((home + 1) % 7), 18);
            CHECK.due("a chain, home being " + home, chain.mends(home), 108);
        }
    }

    /** "from home and home again": not from where he is now. */
    private static void fromHomeAndHomeAgain() {
        PaleMoor x = new PaleMoor();
        x.pale(0, 1, 3);
        x.road(0, 1, 9);
        for (int at = 0; at < 7; at++) {
            x.farm(0, 5, at);
            CHECK.due("he is at " + at, x.mends(0), 18);
        }
    }

    private static PaleMoor liking(int[] side0, int[] side1) {
        PaleMoor x = new PaleMoor();
        for (int one = 0; one < 4; one++) {
            x.likes(0, one, side0[one]);
            x.likes(1, one, side1[one]);
        }
        return x;
    }

    private static void couples(PaleMoor x, int best, int... of0) {
        for (int one = 0; one < 4; one++) {
            CHECK.due("best for " + best + ", of side 0 " + one, x.wed(0, one, best), of0[one]);
            CHECK.due("best for " + best + ", of side 1 " + of0[one], x.wed(1, of0[one], best), one);
        }
    }

    /** "STEADY ones: how many": never none, ten at most of four and four. */
    private static void fewestAndMostSteadyOnes() {
        int[] alike = {3210, 3210, 3210, 3210};
        PaleMoor x = liking(alike, new int[] {123, 123, 123, 123});
        CHECK.due("one", x.steady(), 1);
        couples(x, 0, 3, 2, 1, 0);
        couples(x, 1, 3, 2, 1, 0);
        x = liking(new int[] {123, 1032, 2301, 3210}, new int[] {3210, 2301, 1032, 123});
        CHECK.due("ten", x.steady(), 10);
        couples(x, 0, 0, 1, 2, 3);
        couples(x, 1, 3, 2, 1, 0);
    }

    /** Where each of a side is refused most often, the best for it is as bad as it can be: places 3, 2, 2, 2. */
    private static void worstOfTheBest() {
        int[] asking = {123, 2103, 213, 123};
        int[] asked = {1023, 2130, 3012, 3210};
        PaleMoor x = liking(asking, asked);
        CHECK.due("one", x.steady(), 1);
        couples(x, 0, 3, 0, 1, 2);
        couples(x, 1, 3, 0, 1, 2);
        x = liking(asked, asking);
        CHECK.due("one, the other way", x.steady(), 1);
        couples(x, 0, 1, 2, 3, 0);
        couples(x, 1, 1, 2, 3, 0);
    }

    /** "each of it likes whom it has then no less than in any other": two pairs that may change by themselves. */
    private static void noLessThanInAnyOther() {
        int[] first = {123, 1023, 2301, 3201};
        int[] second = {1023, 123, 3201, 2301};
        PaleMoor x = liking(first, second);
        CHECK.due("four", x.steady(), 4);
        couples(x, 0, 0, 1, 2, 3);
        couples(x, 1, 1, 0, 3, 2);
        x.likes(1, 2, 2301);
        CHECK.due("two: 2 and 2 like each other best", x.steady(), 2);
        couples(x, 0, 0, 1, 2, 3);
        couples(x, 1, 1, 0, 2, 3);
        x.likes(0, 0, 1023);
        CHECK.due("still: 0 goes to 1, who likes 0 no less", x.steady(), 1);
        couples(x, 0, 1, 0, 2, 3);
        couples(x, 1, 1, 0, 2, 3);
    }

    /** "UNKNOWN: the side, the ONE; OUTSIDE: best 0, 1". */
    private static void sidesOnesAndBest() {
        int[] numbers = {LEAST, -2, -1, 0, 1, 2, 3, 4, 5, MOST};
        for (int side : numbers) {
            PaleMoor x = new PaleMoor();
            for (int one : numbers) {
                boolean known = (side == 0 || side == 1) && one >= 0 && one <= 3;
                for (int best : new int[] {LEAST, -1, 0, 1, 2, MOST}) {
                    int due = !known ? UNKNOWN : best != 0 && best != 1 ? OUTSIDE : one;
                    CHECK.due("wed(" + side + ", " + one + ", " + best + ")", x.wed(side, one, best), due);
                }
            }
        }
    }
}
