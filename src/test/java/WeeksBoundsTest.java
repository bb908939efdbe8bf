/** The sentences of promises 9 to 13 (and of parts 1 and 2 on acts) that name a boundary, each with a test. */
public final class WeeksBoundsTest {
    private static final Check CHECK = new Check();
    private static final int NONE = -6, NO = -5;

    public static void main(String[] args) {
        heIsThereAlready();
        thereIsNoRoad();
        heIsAtHomeOrIsNot();
        thereIsNoPale();
        mendedBy3To9AtMost();
        brokenToHalfCut();
        windTo0AtLeast();
        noPaleAnywhere();
        oneCowOrNone();
        gapsOneByOne();
        cowsThatThoseAheadHaveLeft();
        dayNinetyNine();
        theFirstActFrom0On();
        faultOrWhatCanNotBe();
        actsDone();
        behindNone();
        gapsFrom0To21();
        milesOfTheText();
        whoAreAway();
        aGapThatWasNone();
        whichTheLeast();
        CHECK.end();
    }

    /** The text can be judged: its first act that can not be, and why. */
    private static void judged(PaleMoor x, String text, int act, int why) {
        Check.put(x, text);
        CHECK.due(text + ": no fault", x.fault(), NONE);
        CHECK.due(text + ": the act", x.judge(0), act);
        CHECK.due(text + ": why", x.judge(1), why);
    }

    private static void canBe(PaleMoor x, String text) {
        judged(x, text, NONE, NONE);
    }

    private static char man(int number) {
        return (char) ('A' + number);
    }

    private static char farm(int number) {
        return (char) ('a' + number);
    }

    /** Roads between all, of 9 miles, and pales between all. */
    private static PaleMoor allJoined(int strength) {
        PaleMoor x = new PaleMoor();
        for (int a = 0; a < 7; a++) {
            for (int b = 0; b < a; b++) {
                x.pale(a, b, strength);
                x.road(a, b, 9);
            }
        }
        return x;
    }

    /** "1 he is there already (a FARM)": also where there is no ROAD, which is a greater reason. */
    private static void heIsThereAlready() {
        PaleMoor bare = new PaleMoor();
        PaleMoor joined = allJoined(5);
        for (int m = 0; m < 7; m++) {
            String home = "" + man(m) + farm(m);
            judged(bare, home, 0, 1);
            judged(joined, home, 0, 1);
        }
        joined.farm(0, 5, 6);
        judged(joined, "Ag", 0, 1);
        judged(joined, "AaAa", 1, 1);
        bare.farm(0, 5, 6);
        judged(bare, "Ag", 0, 1);
    }

    /** "2 there is no ROAD (a FARM)": a way round by others is none, a pale is none, home is no exception. */
    private static void thereIsNoRoad() {
        PaleMoor x = new PaleMoor();
        x.road(0, 1, 1);
        x.road(1, 2, 9);
        x.pale(0, 2, 5);
        judged(x, "Ac", 0, 2);
        canBe(x, "AbAcAbAa");
        judged(x, "AbAcAa", 2, 2);
        x.farm(6, 5, 0);
        judged(x, "Gg", 0, 2);
        x.road(0, 1, 0);
        judged(x, "Ab", 0, 2);
    }

    /** "3 he is at home (*), is not (!)": ahead of 4 and 5. */
    private static void heIsAtHomeOrIsNot() {
        PaleMoor bare = new PaleMoor();
        for (int m = 0; m < 7; m++) {
            judged(bare, man(m) + "*", 0, 3);
        }
        for (int strength = -1; strength <= 9; strength++) {
            PaleMoor x = new PaleMoor();
            x.pale(0, 1, strength);
            x.farm(0, 5, 1);
            judged(x, "A!b", 0, 3);
            judged(x, "A!a", 0, 3);
            judged(x, "A!c", 0, 3);
            x.farm(0, 5, 0);
            judged(x, "A*", 0, 3);
        }
    }

    /** "4 there is no PALE (*, !)": to a man's own farm there never is one. */
    private static void thereIsNoPale() {
        PaleMoor x = new PaleMoor();
        x.pale(2, 3, 5);
        for (int m = 0; m < 7; m++) {
            judged(x, man(m) + "!" + farm(m), 0, 4);
        }
        judged(x, "C!b", 0, 4);
        judged(x, "B!c", 0, 4);
        x.farm(2, 5, 1);
        judged(x, "C*", 0, 4);
        x.farm(4, 5, 3);
        judged(x, "E*", 0, 4);
        x.farm(2, 5, 3);
        canBe(x, "C*");
        x.pale(2, 3, -1);
        judged(x, "C*", 0, 4);
    }

    /** "STRENGTH is 3 more, 9 at most", "5 its STRENGTH is 9 already (*)". */
    private static void mendedBy3To9AtMost() {
        int[] due = {3, 4, 5, 6, 7, 8, 9, 9, 9};
        for (int s = 0; s <= 9; s++) {
            PaleMoor x = new PaleMoor();
            x.pale(0, 6, s);
            x.farm(6, 5, 0);
            judged(x, "G*", s == 9 ? 0 : NONE, s == 9 ? 5 : NONE);
            CHECK.due("mended from " + s, x.behind(6, 0), s == 9 ? NO : due[s]);
            CHECK.due("mended from " + s + ", not done", x.told(106), s);
        }
        PaleMoor x = new PaleMoor();
        x.pale(0, 6, 0);
        x.farm(0, 5, 6);
        judged(x, "A*A*A*A*", 3, 5);
        canBe(x, "A*A*A*");
        CHECK.due("from a gap to sound", x.behind(0, 6), 9);
    }

    /** "STRENGTH is half, cut", "5 its STRENGTH is .. 0 already (!)". */
    private static void brokenToHalfCut() {
        int[] due = {NO, 0, 1, 1, 2, 2, 3, 3, 4, 4};
        for (int s = 0; s <= 9; s++) {
            PaleMoor x = new PaleMoor();
            x.pale(0, 6, s);
            judged(x, "G!a", s == 0 ? 0 : NONE, s == 0 ? 5 : NONE);
            CHECK.due("broken from " + s, x.behind(0, 6), due[s]);
        }
        PaleMoor x = new PaleMoor();
        x.pale(0, 6, 9);
        canBe(x, "A!gG!aA!gG!a");
        CHECK.due("from sound to a gap", x.behind(0, 6), 0);
        judged(x, "A!gG!aA!gG!aA!g", 4, 5);
    }

    /** "a wind: each PALE has so much less STRENGTH, 0 at least". */
    private static void windTo0AtLeast() {
        for (int s = 0; s <= 9; s++) {
            PaleMoor x = new PaleMoor();
            x.pale(0, 1, s);
            x.pale(5, 6, 9);
            x.pale(0, 6, 9 - s);
            for (int wind = 1; wind <= 9; wind++) {
                canBe(x, "w" + wind);
                CHECK.due("wind " + wind + " on " + s, x.behind(0, 1), s > wind ? s - wind : 0);
                CHECK.due("wind " + wind + " on 9", x.behind(5, 6), 9 - wind);
                CHECK.due("wind " + wind + " on " + (9 - s), x.behind(6, 0), 9 - s > wind ? 9 - s - wind : 0);
                CHECK.due("wind makes no pale", x.behind(0, 5), NONE);
            }
            canBe(x, "w9w9");
            CHECK.due("two winds on " + s, x.behind(0, 1), 0);
        }
    }

    /** "6 there is no PALE anywhere (w)": one gap alone is a pale. */
    private static void noPaleAnywhere() {
        PaleMoor x = new PaleMoor();
        judged(x, "w1", 0, 6);
        judged(x, "w9", 0, 6);
        x.pale(5, 6, 0);
        canBe(x, "w9");
        x.pale(6, 5, -1);
        judged(x, ".w1", 1, 6);
        x.pale(0, 1, 9);
        canBe(x, "w1");
    }

    private static void cowsOfADay(int a, int b, int strength, int dueA, int dueB) {
        for (int[] pair : new int[][] {{0, 1}, {5, 6}, {0, 6}, {6, 0}}) {
            PaleMoor x = new PaleMoor();
            x.pale(pair[0], pair[1], strength);
            x.farm(pair[0], a, pair[0]);
            x.farm(pair[1], b, pair[1]);
            Check.put(x, ".");
            CHECK.due(a + " and " + b + ", the first", x.goes(pair[0], 1), dueA);
            CHECK.due(a + " and " + b + ", the other", x.goes(pair[1], 1), dueB);
            CHECK.due(a + " and " + b + ", a third", x.goes(3, 1), 5);
        }
    }

    /** "one COW goes from that of more to that of fewer, none, if they have as many". */
    private static void oneCowOrNone() {
        cowsOfADay(0, 0, 0, 0, 0);
        cowsOfADay(0, 1, 0, 1, 0);
        cowsOfADay(1, 0, 0, 0, 1);
        cowsOfADay(99, 99, 0, 99, 99);
        cowsOfADay(99, 98, 0, 98, 99);
        cowsOfADay(98, 99, 0, 99, 98);
        cowsOfADay(0, 99, 0, 1, 98);
        cowsOfADay(99, 0, 0, 98, 1);
        cowsOfADay(7, 7, 0, 7, 7);
        cowsOfADay(99, 0, 1, 99, 0);
        cowsOfADay(99, 0, 9, 99, 0);
        cowsOfADay(99, 0, -1, 99, 0);
    }

    private static PaleMoor withGaps(int[] cows, int... pairs) {
        PaleMoor x = new PaleMoor();
        for (int pair : pairs) {
            x.pale(pair / 10, pair % 10, 0);
        }
        for (int f = 0; f < cows.length; f++) {
            x.farm(f, cows[f], f);
        }
        return x;
    }

    private static void herdsBehind(PaleMoor x, String text, int... due) {
        Check.put(x, text);
        for (int f = 0; f < due.length; f++) {
            CHECK.due(text + ": cows of " + f, x.goes(f, 1), due[f]);
        }
    }

    /** "those of the lesser FARM first, of as much those of the lesser other one", however they were put. */
    private static void gapsOneByOne() {
        herdsBehind(withGaps(new int[] {5, 4, 4}, 2, 1), ".", 4, 5, 4);
        herdsBehind(withGaps(new int[] {5, 4, 4}, 20, 10), ".", 4, 5, 4);
        herdsBehind(withGaps(new int[] {3, 3, 4}, 12, 2), ".", 4, 3, 3);
        herdsBehind(withGaps(new int[] {4, 5, 4}, 12, 1), ".", 5, 4, 4);
        herdsBehind(withGaps(new int[] {4, 5, 4}, 21, 10), ".", 5, 4, 4);
        herdsBehind(withGaps(new int[] {0, 0, 0, 0, 6, 6, 7}, 56, 46), ".", 0, 0, 0, 0, 7, 6, 6);
        herdsBehind(withGaps(new int[] {1, 0, 0, 0, 0, 0, 0}, 6, 5, 4, 3, 2, 1), ".", 0, 1, 0, 0, 0, 0, 0);
        herdsBehind(withGaps(new int[] {0, 0, 0, 0, 0, 0, 1}, 56, 46, 36, 26, 16, 6), ".", 1, 0, 0, 0, 0, 0, 0);
    }

    /** "each by the COWS that those ahead of it have left": a cow may go by all seven farms on one day, or back. */
    private static void cowsThatThoseAheadHaveLeft() {
        int[] one = {9, 5, 5, 5, 5, 5, 5};
        herdsBehind(withGaps(one, 1, 12, 23, 34, 45, 56), ".", 8, 5, 5, 5, 5, 5, 6);
        int[] last = {5, 5, 5, 5, 5, 5, 9};
        herdsBehind(withGaps(last, 1, 12, 23, 34, 45, 56), ".", 5, 5, 5, 5, 5, 6, 8);
        int[] many = {99, 0, 0, 0, 0, 0, 0};
        herdsBehind(withGaps(many, 1, 2, 3, 4, 5, 6), ".", 93, 1, 1, 1, 1, 1, 1);
        herdsBehind(withGaps(new int[] {1, 0, 0}, 1, 2, 12), ".", 0, 0, 1);
        herdsBehind(withGaps(new int[] {1, 0, 0}, 1, 2, 12), "..", 1, 0, 0);
        herdsBehind(withGaps(new int[] {99, 0}, 1), ".".repeat(49), 50, 49);
        herdsBehind(withGaps(new int[] {99, 0}, 1), ".".repeat(50), 49, 50);
        PaleMoor wind = withGaps(new int[] {9, 0, 0}, 1);
        wind.pale(0, 2, 1);
        herdsBehind(wind, ".w1.", 6, 2, 1);
    }

    /** "7 it is day 99 (.)". */
    private static void dayNinetyNine() {
        PaleMoor x = withGaps(new int[] {9, 0}, 1);
        Check.put(x, ".".repeat(60)).done();
        Check.put(x, ".".repeat(38)).done();
        CHECK.due("day 98", x.told(3), 98);
        CHECK.due("cows swing", x.told(20), 5);
        canBe(x, ".");
        CHECK.due("day 99 behind", x.then(3), 99);
        CHECK.due("cows behind", x.goes(0, 1), 4);
        judged(x, "..", 1, 7);
        CHECK.due("no day behind", x.then(3), NO);
        CHECK.due("nothing is done", x.done(), NO);
        CHECK.due("not one day of the two", x.told(3), 98);
        CHECK.due("one day", Check.put(x, ".").done(), 1);
        CHECK.due("day 99", x.told(3), 99);
        judged(x, ".", 0, 7);
        CHECK.due("the last", x.done(), NO);
        CHECK.due("day 99 still", x.told(3), 99);
        CHECK.due("cows as on day 99", x.told(20), 4);
        canBe(x, "w1");
        judged(x, "w1.", 1, 7);
    }

    /** "the first ACT (from 0 on) that can not be": acts are counted, not signs, and the first is told. */
    private static void theFirstActFrom0On() {
        PaleMoor x = Check.moor();
        judged(x, "A*Aa", 0, 3);
        judged(x, "AaA*", 0, 1);
        judged(x, "C!b.w1AbAbAb", 4, 1);
        judged(x, "A!bw9A!bAa", 2, 5);
        PaleMoor days = new PaleMoor();
        Check.put(days, ".".repeat(40)).done();
        judged(days, ".".repeat(60), 59, 7);
        canBe(days, ".".repeat(59));
        PaleMoor walks = allJoined(9);
        judged(walks, "AbAa".repeat(14) + "AbAb", 29, 1);
        judged(allJoined(9), "A!b".repeat(5), 4, 5);
    }

    /** "NO: there is a FAULT" of judge, "NO: there is a FAULT, or an ACT that can not be" of the others. */
    private static void faultOrWhatCanNotBe() {
        String[] faults = {"A", "x", "Ab.A!", ".".repeat(59) + "w", ".".repeat(59) + "*", "AaA"};
        for (String text : faults) {
            PaleMoor x = Check.put(Check.moor(), text);
            CHECK.due(text + ": judge 0", x.judge(0), NO);
            CHECK.due(text + ": judge 1", x.judge(1), NO);
            noneOfIt(x, text);
        }
        for (String text : new String[] {"Aa", "..A*", "AbAbAb", "w9A!b"}) {
            PaleMoor x = Check.put(Check.moor(), text);
            CHECK.due(text + ": judge", x.judge(0) >= 0 ? 1 : 0, 1);
            noneOfIt(x, text);
        }
    }

    private static void noneOfIt(PaleMoor x, String text) {
        CHECK.due(text + ": behind", x.behind(0, 1), NO);
        CHECK.due(text + ": goes", x.goes(6, 0), NO);
        CHECK.due(text + ": goes", x.goes(0, 1), NO);
        for (int what = 0; what <= 5; what++) {
            CHECK.due(text + ": then " + what, x.then(what), NO);
        }
        CHECK.due(text + ": done", x.done(), NO);
        CHECK.due(text + ": the pad stays", x.told(0), text.length());
        CHECK.due(text + ": no day", x.told(3), 0);
        CHECK.due(text + ": nobody went", x.told(2), 0);
        CHECK.due(text + ": strength", x.told(101), 4);
    }

    private static void doneAre(PaleMoor x, String text, int acts) {
        Check.put(x, text);
        CHECK.due(acts + " acts can be", x.judge(0), NONE);
        CHECK.due(acts + " acts", x.done(), acts);
        CHECK.due("the pad is empty", x.told(0), 0);
        CHECK.due("no fault then", x.fault(), NONE);
        CHECK.due("nothing more is done", x.done(), 0);
    }

    /** "WEEKS on the PAD are DONE (it is empty then): ACTS": none, one, and as many as a pad has room for. */
    private static void actsDone() {
        doneAre(new PaleMoor(), "", 0);
        doneAre(new PaleMoor(), ".", 1);
        doneAre(new PaleMoor(), ".".repeat(60), 60);
        doneAre(allJoined(9), "AbAa".repeat(15), 30);
        PaleMoor x = allJoined(9);
        doneAre(x, "A!bA!bA!bA!bA!cA!cA!cA!cA!dA!dA!dA!dA!eA!eA!eA!eA!fA!fA!fA!f", 20);
        CHECK.due("five gaps", x.told(1), 5);
        CHECK.due("the sixth is sound", x.told(106), 9);
        doneAre(x, "w9".repeat(30), 30);
        CHECK.due("all are gaps", x.told(1), 21);
    }

    /** "of two FARMS STRENGTH of the PALE between them (NONE: there is none)". */
    private static void behindNone() {
        PaleMoor x = new PaleMoor();
        for (int s = 0; s <= 9; s++) {
            x.pale(3, 4, s);
            CHECK.due("nothing on the pad", x.behind(4, 3), s);
        }
        Check.put(x, "w4.");
        CHECK.due("strength", x.behind(3, 4), 5);
        CHECK.due("none", x.behind(4, 5), NONE);
        x.pale(3, 4, 3);
        CHECK.due("a gap is 0, not none", x.behind(3, 4), 0);
        x.pale(0, 1, 1);
        x.pale(3, 4, -1);
        CHECK.due("taken away", x.behind(3, 4), NONE);
    }

    /** "how many GAPS there are". */
    private static void gapsFrom0To21() {
        PaleMoor x = allJoined(9);
        Check.put(x, "w8");
        CHECK.due("none", x.then(0), 0);
        Check.put(x, "w8w1");
        CHECK.due("all", x.then(0), 21);
        CHECK.due("none now", x.told(1), 0);
        Check.put(x, "w9AbA*");
        CHECK.due("all but one", x.then(0), 20);
        x = new PaleMoor();
        CHECK.due("without pales", x.then(0), 0);
        Check.put(x, "...");
        CHECK.due("without pales", x.then(0), 0);
    }

    /** "MILES that were gone in the text": none without a walk; the most that a pad has room for. */
    private static void milesOfTheText() {
        PaleMoor x = allJoined(9);
        CHECK.due("nobody goes", x.then(1), 0);
        Check.put(x, "AbAa".repeat(15));
        CHECK.due("30 walks of 9", x.then(1), 270);
        x.road(0, 1, 1);
        CHECK.due("30 walks of 1", x.then(1), 30);
        x.done();
        CHECK.due("gone in an earlier text", x.then(1), 0);
        Check.put(x, "Ab").done();
        Check.put(x, "Aa");
        CHECK.due("of this text alone", x.then(1), 1);
        Check.put(x, "w1A*.");
        CHECK.due("other acts go no miles", x.then(1), 0);
    }

    /** "MEN who are away (bits)": who goes, who comes home, who was away. */
    private static void whoAreAway() {
        PaleMoor x = allJoined(9);
        Check.put(x, "AbBcCdDeEfFgGa");
        CHECK.due("all", x.then(2), 127);
        Check.put(x, "AbBcCdDeEfFgGaGg");
        CHECK.due("all but the last", x.then(2), 63);
        Check.put(x, "Ga").done();
        CHECK.due("who was away", x.then(2), 64);
        Check.put(x, "Gg");
        CHECK.due("who is home again", x.then(2), 0);
        CHECK.due("he is not now", x.told(2), 64);
        CHECK.due("he is behind", x.goes(6, 0), 6);
    }

    private static void gapBy(PaleMoor x, String text, int act, int gap) {
        Check.put(x, text);
        CHECK.due(text + ": the act", x.then(4), act);
        CHECK.due(text + ": the gap", x.then(5), gap);
    }

    /** "the first ACT by which a PALE became a GAP that was none", NONE. */
    private static void aGapThatWasNone() {
        PaleMoor x = new PaleMoor();
        gapBy(x, "", NONE, NONE);
        gapBy(x, ".", NONE, NONE);
        x.pale(0, 1, 0);
        gapBy(x, "w9", NONE, NONE);
        gapBy(x, ".w1.", NONE, NONE);
        x.farm(0, 5, 1);
        gapBy(x, "A*", NONE, NONE);
        gapBy(x, "A*w2", NONE, NONE);
        gapBy(x, "A*w3", 1, 1);
        gapBy(x, "A*w2w1w1", 2, 1);
        gapBy(x, "A*w3A*w3", 1, 1);
        gapBy(x, "A*B!aB!a", 2, 1);
        gapBy(x, "A*B!a", NONE, NONE);
        gapBy(x, "A*w9A*", 1, 1);
        x.pale(5, 6, 2);
        gapBy(x, "w1", NONE, NONE);
        gapBy(x, "w2", 0, 56);
        gapBy(x, ".".repeat(54) + "G!fF!g", 55, 56);
        gapBy(x, ".".repeat(58) + "w2", 58, 56);
        gapBy(x, "w2A*w3", 0, 56);
        x.wipe();
        gapBy(x, "w1", NONE, NONE);
        CHECK.due("a pale of 1 now", x.done(), 1);
        gapBy(x, "", NONE, NONE);
        gapBy(x, "w1", 0, 56);
    }

    /** "which, the least (10 times the lesser FARM, and the greater": of one wind several, by either side. */
    private static void whichTheLeast() {
        for (int a = 0; a < 7; a++) {
            for (int b = a + 1; b < 7; b++) {
                PaleMoor x = new PaleMoor();
                x.pale(b, a, 1);
                gapBy(x, "w1", 0, 10 * a + b);
                gapBy(x, "" + man(a) + "!" + farm(b), 0, 10 * a + b);
                gapBy(x, "." + man(b) + "!" + farm(a), 1, 10 * a + b);
            }
        }
        gapBy(allJoined(9), "w9", 0, 1);
        gapBy(allJoined(1), "G!fw1", 0, 56);
        PaleMoor x = new PaleMoor();
        x.pale(0, 6, 2);
        x.pale(1, 2, 1);
        x.pale(1, 6, 1);
        x.pale(2, 3, 1);
        gapBy(x, "w1", 0, 12);
        gapBy(x, "w2", 0, 6);
        gapBy(x, "D!cw9", 0, 23);
        x.pale(0, 6, 0);
        gapBy(x, "w9", 0, 12);
        x.pale(1, 2, -1);
        gapBy(x, "w9", 0, 16);
    }
}
