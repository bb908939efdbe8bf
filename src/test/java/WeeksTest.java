/** Promises 9 to 13: judge, done, behind, goes, then. */
public final class WeeksTest {
    private static final Check CHECK = new Check();

    public static void main(String[] args) {
        reasons();
        refusals();
        strengths();
        days();
        lastDay();
        firstGap();
        miles();
        doing();
        CHECK.end();
    }

    private static void judged(PaleMoor x, String text, int act, int why) {
        Check.put(x, text);
        CHECK.due(text + " judge(0)", x.judge(0), act);
        CHECK.due(text + " judge(1)", x.judge(1), why);
        CHECK.due(text + " done or not", x.behind(0, 1) == PaleMoor.NO ? 1 : 0, act == PaleMoor.NONE ? 0 : 1);
    }

    private static void reasons() {
        PaleMoor x = Check.moor();
        judged(x, "", PaleMoor.NONE, PaleMoor.NONE);
        judged(x, "AbAa", PaleMoor.NONE, PaleMoor.NONE);
        judged(x, "Aa", 0, 1);
        judged(x, "AbAb", 1, 1);
        judged(x, "Gg", 0, 1);
        judged(x, "Ac", 0, 2);
        judged(x, "AbAcAa", 2, 2);
        judged(x, "A*", 0, 3);
        judged(x, "AbAaA*", 2, 3);
        judged(x, "AbA!b", 1, 3);
        judged(x, "AdA!a", 1, 3);
        judged(x, "AdA*", 1, 4);
        judged(x, "A!d", 0, 4);
        judged(x, "A!a", 0, 4);
        judged(x, "BaB*B*B*", 3, 5);
        judged(x, "AbAcA*", 2, 5);
        judged(x, "C!bC!b", 1, 5);
        judged(x, "C!bB!c", 1, 5);
        judged(x, "w9w9", PaleMoor.NONE, PaleMoor.NONE);
        PaleMoor bare = new PaleMoor();
        judged(bare, "w1", 0, 6);
        judged(bare, ".w1.", 1, 6);
        judged(bare, "AaA*", 0, 1);
        bare.pale(5, 6, 0);
        judged(bare, "w1", PaleMoor.NONE, PaleMoor.NONE);
    }

    private static void refusals() {
        PaleMoor x = Check.moor();
        String[] notDone = {"A", "Aa", "x"};
        for (String text : notDone) {
            Check.put(x, text);
            CHECK.due("judge outside first", x.judge(2), PaleMoor.OUTSIDE);
            CHECK.due("judge outside first", x.judge(-1), PaleMoor.OUTSIDE);
            CHECK.due("judge of a fault", x.judge(0), text.equals("Aa") ? 0 : PaleMoor.NO);
            CHECK.due("done", x.done(), PaleMoor.NO);
            CHECK.due("the pad stays", x.told(0), text.length());
            CHECK.due("behind unknown first", x.behind(0, 7), PaleMoor.UNKNOWN);
            CHECK.due("behind unknown first", x.behind(-1, 0), PaleMoor.UNKNOWN);
            CHECK.due("behind one", x.behind(4, 4), PaleMoor.UNKNOWN);
            CHECK.due("behind", x.behind(0, 1), PaleMoor.NO);
            CHECK.due("goes unknown first", x.goes(7, 5), PaleMoor.UNKNOWN);
            CHECK.due("goes unknown first", x.goes(-1, 0), PaleMoor.UNKNOWN);
            CHECK.due("goes outside", x.goes(0, 2), PaleMoor.OUTSIDE);
            CHECK.due("goes outside", x.goes(0, -1), PaleMoor.OUTSIDE);
            CHECK.due("goes", x.goes(0, 0), PaleMoor.NO);
            CHECK.due("then outside", x.then(6), PaleMoor.OUTSIDE);
            CHECK.due("then outside", x.then(-1), PaleMoor.OUTSIDE);
            CHECK.due("then", x.then(3), PaleMoor.NO);
        }
        CHECK.due("a refused week changes nothing", x.told(10), 0);
    }

    private static int strengthBehind(PaleMoor x, String text, int a, int b) {
        return Check.put(x, text).behind(a, b);
    }

    private static void strengths() {
        PaleMoor x = Check.moor();
        CHECK.due("mended", strengthBehind(x, "AbA*", 0, 1), 7);
        CHECK.due("both ways", strengthBehind(x, "AbA*", 1, 0), 7);
        CHECK.due("mended to 9 at most", strengthBehind(x, "AbA*A*", 0, 1), 9);
        CHECK.due("from the other side", strengthBehind(x, "BaB*", 0, 1), 7);
        CHECK.due("halved", strengthBehind(x, "A!b", 0, 1), 2);
        CHECK.due("halved, cut", strengthBehind(x, "A!c", 0, 2), 4);
        CHECK.due("halved to a gap", strengthBehind(x, "C!b", 1, 2), 0);
        CHECK.due("a gap mended", strengthBehind(x, "C!bCbC*", 1, 2), 3);
        CHECK.due("wind", strengthBehind(x, "w3", 0, 1), 1);
        CHECK.due("wind", strengthBehind(x, "w3", 0, 2), 6);
        CHECK.due("wind, 0 at least", strengthBehind(x, "w3", 1, 2), 0);
        CHECK.due("wind makes no pale", strengthBehind(x, "w3", 3, 4), PaleMoor.NONE);
        CHECK.due("nothing is done by looking", x.told(101), 4);
    }

    private static void days() {
        PaleMoor x = new PaleMoor();
        x.pale(0, 1, 0);
        x.pale(0, 2, 0);
        x.pale(1, 2, 0);
        x.farm(0, 9, 0);
        x.farm(1, 7, 1);
        x.farm(2, 8, 2);
        Check.put(x, ".");
        // ab: 8 8 8; ac: none; bc: none.
        CHECK.due("a", x.goes(0, 1), 8);
        CHECK.due("b", x.goes(1, 1), 8);
        CHECK.due("c", x.goes(2, 1), 8);
        x.farm(0, 3, 0);
        x.farm(1, 3, 1);
        x.farm(2, 2, 2);
        // ab: none; ac: 2 3 3; bc: none; next day ab: 3 2 3; bc: 3 3 2.
        CHECK.due("a", x.goes(0, 1), 2);
        CHECK.due("c", x.goes(2, 1), 3);
        Check.put(x, "..");
        CHECK.due("a", x.goes(0, 1), 3);
        CHECK.due("b", x.goes(1, 1), 3);
        CHECK.due("c", x.goes(2, 1), 2);
        x.pale(0, 1, 1);
        x.pale(0, 2, 1);
        x.pale(1, 2, -1);
        CHECK.due("no gap, no cow", x.goes(0, 1), 3);
        x.pale(5, 6, 0);
        x.farm(5, 0, 5);
        x.farm(6, 99, 6);
        Check.put(x, ".");
        CHECK.due("from many", x.goes(6, 1), 98);
        CHECK.due("to none", x.goes(5, 1), 1);
    }

    private static void lastDay() {
        PaleMoor x = new PaleMoor();
        Check.put(x, ".".repeat(60));
        CHECK.due("days", x.then(3), 60);
        CHECK.due("day now", x.told(3), 0);
        CHECK.due("acts", x.done(), 60);
        CHECK.due("day now", x.told(3), 60);
        judged(x, ".".repeat(39), PaleMoor.NONE, PaleMoor.NONE);
        CHECK.due("day 99", x.then(3), 99);
        judged(x, ".".repeat(40), 39, 7);
        Check.put(x, ".".repeat(39));
        x.done();
        judged(x, ".", 0, 7);
        CHECK.due("no day more", x.told(3), 99);
    }

    private static void gapOf(PaleMoor x, String text, int gaps, int act, int gap) {
        Check.put(x, text);
        CHECK.due(text + " then(0)", x.then(0), gaps);
        CHECK.due(text + " then(4)", x.then(4), act);
        CHECK.due(text + " then(5)", x.then(5), gap);
    }

    private static void firstGap() {
        PaleMoor x = Check.moor();
        gapOf(x, "..", 0, PaleMoor.NONE, PaleMoor.NONE);
        gapOf(x, ".w1", 1, 1, 12);
        gapOf(x, "w4", 2, 0, 1);
        gapOf(x, "C!bw9", 3, 0, 12);
        gapOf(x, "B!c", 1, 0, 12);
        gapOf(x, "A!bA!bA!b.w1", 2, 2, 1);
        gapOf(x, "C!bCbC*", 0, 0, 12);
        x.pale(5, 6, 0);
        gapOf(x, "w1", 2, 0, 12);
        gapOf(x, ".", 1, PaleMoor.NONE, PaleMoor.NONE);
        x.pale(1, 2, 0);
        gapOf(x, "w3", 2, PaleMoor.NONE, PaleMoor.NONE);
        gapOf(x, "w3w2", 3, 1, 1);
        gapOf(x, "CbC*w3", 2, 2, 12);
    }

    private static void miles() {
        PaleMoor x = Check.moor();
        Check.put(x, "AdDaDbAbAc.");
        CHECK.due("miles", x.then(1), 2 + 2 + 9 + 3 + 4);
        Check.put(x, "AdDaDdAbAc.");
        CHECK.due("miles", x.then(1), 2 + 2 + 2 + 3 + 4);
        CHECK.due("away", x.then(2), 1);
        CHECK.due("at", x.goes(0, 0), 2);
        CHECK.due("at", x.goes(3, 0), 3);
        Check.put(x, "BdAbDa");
        CHECK.due("away", x.then(2), 1 + 2 + 8);
        CHECK.due("miles", x.then(1), 3 + 9 + 2);
        x.farm(6, 5, 0);
        CHECK.due("away, also who was", x.then(2), 1 + 2 + 8 + 64);
        CHECK.due("at", x.goes(6, 0), 0);
    }

    private static void doing() {
        PaleMoor x = Check.moor();
        CHECK.due("nothing done", x.done(), 0);
        Check.put(x, "AbA*C!b.w2");
        CHECK.due("acts", x.done(), 5);
        CHECK.due("pad", x.told(0), 0);
        CHECK.due("strength", x.told(101), 5);
        CHECK.due("strength", x.told(112), 0);
        CHECK.due("at", x.told(10), 1);
        CHECK.due("day", x.told(3), 1);
        CHECK.due("miles of this text alone", x.then(1), 0);
        CHECK.due("gap of this text alone", x.then(4), PaleMoor.NONE);
        CHECK.due("nothing twice", x.done(), 0);
    }
}
