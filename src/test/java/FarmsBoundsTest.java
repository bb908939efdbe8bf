/** The sentences of promises 1 to 8 (and of part 1 up to the fault) that name a boundary, each with a test. */
public final class FarmsBoundsTest {
    private static final Check CHECK = new Check();
    private static final int NONE = -6, UNKNOWN = -1, OUTSIDE = -2, FULL = -4;
    private static final int LEAST = Integer.MIN_VALUE, MOST = Integer.MAX_VALUE;

    public static void main(String[] args) {
        atFirst();
        farmsAre0To6();
        strengthIs0To9();
        milesAre1To9();
        palesAreCountedGapsToo();
        milesItHad();
        cowsAre0To99();
        whereHeWas();
        sidesAndOnes();
        rowsHaveEachOnce();
        codesAre33To126();
        sixtySignsAtMost();
        wipeAnswersHowManyThereWere();
        firstSign();
        signBehindAMan();
        signBehindABreach();
        signBehindAWind();
        firstOfSeveralFaults();
        moreMustCome();
        CHECK.end();
    }

    private static boolean within(int number, int least, int most) {
        return number >= least && number <= most;
    }

    /** "neither at first", "at his own, at first", "5 at first", "day 0 at first", "0123 at first". */
    private static void atFirst() {
        PaleMoor x = new PaleMoor();
        CHECK.due("no sign, no fault", x.fault(), NONE);
        CHECK.due("nothing to wipe", x.wipe(), 0);
        CHECK.due("nothing to forget", x.forget(), 0);
        CHECK.due("no act", x.done(), 0);
        for (int a = 0; a < 7; a++) {
            CHECK.due("goes, at home", x.goes(a, 0), a);
            CHECK.due("goes, cows", x.goes(a, 1), 5);
            CHECK.due("nothing to mend", x.mends(a), 0);
            for (int b = 0; b < 7; b++) {
                CHECK.due("no pale behind", x.behind(a, b), a == b ? UNKNOWN : NONE);
                CHECK.due("no way round", x.round(a, b), a == b ? 0 : NONE);
            }
        }
        int[] then = {0, 0, 0, 0, NONE, NONE};
        for (int what = 0; what < 6; what++) {
            CHECK.due("then " + what, x.then(what), then[what]);
        }
        for (int one = 0; one < 4; one++) {
            CHECK.due("the row that it was", x.likes(0, one, 3210), 123);
            CHECK.due("the row that it was", x.likes(1, one, 3210), 123);
        }
    }

    /** "FARMS 0 to 6", "UNKNOWN: both, also one" of pale and road, "UNKNOWN: both" of farm. */
    private static void farmsAre0To6() {
        int[] numbers = {LEAST, -8, -7, -1, 0, 1, 2, 3, 4, 5, 6, 7, 8, 13, 14, MOST};
        for (int a : numbers) {
            for (int b : numbers) {
                boolean both = within(a, 0, 6) && within(b, 0, 6);
                PaleMoor x = new PaleMoor();
                String of = "(" + a + ", " + b + ")";
                CHECK.due("pale " + of, x.pale(a, b, 9), both && a != b ? 1 : UNKNOWN);
                CHECK.due("road " + of, x.road(a, b, 9), both && a != b ? 0 : UNKNOWN);
                CHECK.due("farm, at " + of, x.farm(a, 9, b), both ? a : UNKNOWN);
                if (both && a != b) {
                    CHECK.due("told strength " + of, x.told(100 + 10 * a + b), 9);
                    CHECK.due("told strength, back " + of, x.told(100 + 10 * b + a), 9);
                    CHECK.due("told miles " + of, x.told(200 + 10 * a + b), 9);
                    CHECK.due("told miles, back " + of, x.told(200 + 10 * b + a), 9);
                }
            }
        }
    }

    /** "by STRENGTH 0 (a GAP) to 9", "(-1: none)". */
    private static void strengthIs0To9() {
        for (int s = -4; s <= 12; s++) {
            PaleMoor x = new PaleMoor();
            x.pale(2, 5, 4);
            x.pale(0, 6, 1);
            CHECK.due("pale " + s, x.pale(6, 0, s), within(s, 0, 9) ? 2 : s == -1 ? 1 : OUTSIDE);
            CHECK.due("strength " + s, x.told(106), within(s, 0, 9) ? s : s == -1 ? NONE : 1);
            CHECK.due("gaps " + s, x.told(1), s == 0 ? 1 : 0);
        }
    }

    /** "a ROAD of 1 to 9 MILES", "(0: none)". */
    private static void milesAre1To9() {
        for (int m = -3; m <= 12; m++) {
            PaleMoor x = new PaleMoor();
            x.road(0, 6, 5);
            CHECK.due("road " + m, x.road(6, 0, m), within(m, 0, 9) ? 5 : OUTSIDE);
            CHECK.due("miles " + m, x.told(206), within(m, 0, 9) ? m : 5);
            CHECK.due("round " + m, x.round(0, 6), m == 0 ? NONE : within(m, 1, 9) ? m : 5);
        }
    }

    /** "how many PALES there are (GAPS, too)": from none to all, the same one once, and to none again. */
    private static void palesAreCountedGapsToo() {
        PaleMoor x = new PaleMoor();
        int pales = 0;
        for (int a = 6; a >= 0; a--) {
            for (int b = a - 1; b >= 0; b--) {
                CHECK.due("none there to take away", x.pale(a, b, -1), pales);
                pales++;
                CHECK.due("one more", x.pale(a, b, pales % 10), pales);
                CHECK.due("the same again, a gap", x.pale(b, a, 0), pales);
                CHECK.due("all of them are gaps", x.told(1), pales);
            }
        }
        for (int a = 0; a < 7; a++) {
            for (int b = a + 1; b < 7; b++) {
                pales--;
                CHECK.due("one fewer", x.pale(a, b, -1), pales);
            }
        }
        CHECK.due("none is left", x.told(1), 0);
    }

    /** "how many MILES it had": none, those of the last call that was not refused, by either name of the road. */
    private static void milesItHad() {
        PaleMoor x = new PaleMoor();
        CHECK.due("none", x.road(0, 6, 0), 0);
        CHECK.due("still none", x.road(0, 6, 1), 0);
        CHECK.due("1", x.road(6, 0, 9), 1);
        CHECK.due("refused", x.road(6, 0, 10), OUTSIDE);
        CHECK.due("9", x.road(0, 6, 0), 9);
        CHECK.due("none again", x.road(6, 0, 3), 0);
    }

    /** "each FARM has 0 to 99 COWS". */
    private static void cowsAre0To99() {
        for (int cows = -3; cows <= 102; cows++) {
            PaleMoor x = new PaleMoor();
            boolean may = within(cows, 0, 99);
            CHECK.due("farm, cows " + cows, x.farm(6, cows, 0), may ? 6 : OUTSIDE);
            CHECK.due("cows " + cows, x.told(26), may ? cows : 5);
            CHECK.due("place, cows " + cows, x.told(16), may ? 0 : 6);
        }
    }

    /** "where he was": of every man, of every place, and of a call that leaves him there. */
    private static void whereHeWas() {
        for (int man = 0; man < 7; man++) {
            PaleMoor x = new PaleMoor();
            int was = man;
            for (int at = 6; at >= 0; at--) {
                CHECK.due("was", x.farm(man, at, at), was);
                CHECK.due("stays", x.farm(man, 99 - at, at), at);
                CHECK.due("is", x.told(10 + man), at);
                CHECK.due("cows", x.told(20 + man), 99 - at);
                CHECK.due("away", x.told(2), at == man ? 0 : 1 << man);
                was = at;
            }
        }
    }

    /** "UNKNOWN: the side, the ONE": sides 0 and 1, ones 0 to 3. */
    private static void sidesAndOnes() {
        int[] numbers = {LEAST, -4, -2, -1, 0, 1, 2, 3, 4, 5, 8, MOST};
        for (int side : numbers) {
            for (int one : numbers) {
                boolean known = within(side, 0, 1) && within(one, 0, 3);
                PaleMoor x = new PaleMoor();
                String of = "(" + side + ", " + one + ")";
                CHECK.due("likes " + of, x.likes(side, one, 3210), known ? 123 : UNKNOWN);
                int changed = 0;
                for (int i = 0; i < 8; i++) {
                    changed += x.told(30 + 10 * (i / 4) + i % 4) == 3210 ? 1 << i : 0;
                }
                CHECK.due("rows changed by " + of, changed, known ? 1 << (4 * side + one) : 0);
            }
        }
    }

    /** "a row of four digits (0 to 3, each once", "OUTSIDE: a row that is none". */
    private static void rowsHaveEachOnce() {
        int rows = 0;
        for (int a = 0; a <= 4; a++) {
            for (int b = 0; b <= 4; b++) {
                for (int c = 0; c <= 4; c++) {
                    for (int d = 0; d <= 4; d++) {
                        int row = 1000 * a + 100 * b + 10 * c + d;
                        boolean once = a < 4 && b < 4 && c < 4 && d < 4 && (1 << a | 1 << b | 1 << c | 1 << d) == 15;
                        PaleMoor x = new PaleMoor();
                        CHECK.due("row " + row, x.likes(1, 3, row), once ? 123 : OUTSIDE);
                        CHECK.due("row then " + row, x.told(43), once ? row : 123);
                        rows += once ? 1 : 0;
                    }
                }
            }
        }
        CHECK.due("rows there are", rows, 24);
        PaleMoor x = new PaleMoor();
        int[] none = {
            LEAST, LEAST + 123, -3210, -123, -1, 122, 3211, 10123, 20123, 100123, 13210, 65536 + 123, 1230000, MOST};
        for (int row : none) {
            CHECK.due("row " + row, x.likes(0, 0, row), OUTSIDE);
        }
        CHECK.due("the least row", x.likes(0, 0, 123), 123);
        CHECK.due("the greatest row", x.likes(0, 0, 3210), 123);
        CHECK.due("which row it was", x.likes(0, 0, 3210), 3210);
    }

    /** "codes 33 to 126". */
    private static void codesAre33To126() {
        int[] far = {LEAST, LEAST + 65, -65, 256 + 65, 65536 + 65, MOST};
        for (int sign : far) {
            CHECK.due("sign " + sign, new PaleMoor().say(sign), OUTSIDE);
        }
        for (int sign = -2; sign <= 300; sign++) {
            PaleMoor x = new PaleMoor();
            CHECK.due("sign " + sign, x.say(sign), within(sign, 33, 126) ? 1 : OUTSIDE);
            CHECK.due("signs behind " + sign, x.told(0), within(sign, 33, 126) ? 1 : 0);
        }
    }

    /** "60 SIGNS at most": FULL at the 61st, and room again once they are wiped or done. */
    private static void sixtySignsAtMost() {
        PaleMoor x = new PaleMoor();
        for (int i = 1; i <= 60; i++) {
            CHECK.due("sign " + i, x.say('.'), i);
        }
        CHECK.due("sign 61", x.say('.'), FULL);
        CHECK.due("sign 61 again", x.say('A'), FULL);
        CHECK.due("60 signs", x.told(0), 60);
        CHECK.due("60 acts: the refused sign is no part of them", x.done(), 60);
        CHECK.due("room again", x.say('.'), 1);
        for (int i = 2; i <= 60; i++) {
            x.say('A');
        }
        CHECK.due("full again", x.say('.'), FULL);
        CHECK.due("wiped", x.wipe(), 60);
        CHECK.due("room again", x.say('.'), 1);
        CHECK.due("nothing of what was wiped", x.fault(), NONE);
    }

    /** "Signs go: how many there were". */
    private static void wipeAnswersHowManyThereWere() {
        PaleMoor x = new PaleMoor();
        for (int n = 0; n <= 20; n++) {
            Check.add(x, "x".repeat(n));
            CHECK.due("wiped", x.wipe(), n);
            CHECK.due("none left", x.told(0), 0);
            CHECK.due("none to wipe", x.wipe(), 0);
            CHECK.due("an empty pad has no fault", x.fault(), NONE);
        }
    }

    /** Puts each sign behind a text: it ends an act, or begins or goes on with one, or can not stand there. */
    private static void eachSignBehind(String text, String ending, String goingOn) {
        for (int sign = 33; sign <= 126; sign++) {
            PaleMoor x = Check.add(new PaleMoor(), text);
            x.say(sign);
            int due = ending.indexOf(sign) >= 0 ? NONE : goingOn.indexOf(sign) >= 0 ? text.length() + 1 : text.length();
            CHECK.due("fault of " + text + (char) sign, x.fault(), due);
        }
    }

    /** "of ACTS: a MAN's letter and ..; w and ..; .": A to G begin, not @ and not H. */
    private static void firstSign() {
        for (String text : new String[] {"", ".", "Ab", "A*", "A!b", "w1", "G*.w9Ga"}) {
            eachSignBehind(text, ".", "ABCDEFGw");
        }
    }

    /** "a FARM's letter .., * .., or ! and ..": a to g, neither ` nor h. */
    private static void signBehindAMan() {
        for (String man : new String[] {"A", "B", "C", "D", "E", "F", "G", "..G", "w1A"}) {
            eachSignBehind(man, "abcdefg*", "!");
        }
    }

    /** "! and a FARM's letter". */
    private static void signBehindABreach() {
        for (String text : new String[] {"A!", "G!", ".B!", "A!bA!"}) {
            eachSignBehind(text, "abcdefg", "");
        }
    }

    /** "w and a digit 1 to 9": neither 0 nor the sign behind 9. */
    private static void signBehindAWind() {
        for (String text : new String[] {"w", "w1w", "Abw"}) {
            eachSignBehind(text, "123456789", "");
        }
    }

    /** "the place (from 0 on) of the first sign that can not stand there". */
    private static void firstOfSeveralFaults() {
        PaleMoor x = new PaleMoor();
        CHECK.due("both", Check.put(x, "xx").fault(), 0);
        CHECK.due("the second and the last", Check.put(x, "AxAx").fault(), 1);
        CHECK.due("a fault ahead of what is not ended", Check.put(x, "A!zA").fault(), 2);
        CHECK.due("what follows may stand", Check.put(x, "zA*..").fault(), 0);
        CHECK.due("behind the first, none", Check.put(x, ".zAb").fault(), 1);
        for (int place = 0; place < 60; place++) {
            x = Check.add(new PaleMoor(), ".".repeat(place) + "!" + ".".repeat(59 - place));
            CHECK.due("at " + place + " of 60", x.fault(), place);
        }
    }

    /** "the number of signs, if more must come (an empty PAD has none)". */
    private static void moreMustCome() {
        String[] open = {"A", "A!", "w"};
        for (String text : open) {
            for (int n = 0; n <= 60 - text.length(); n++) {
                PaleMoor x = Check.add(new PaleMoor(), ".".repeat(n) + text);
                CHECK.due(n + " days and " + text, x.fault(), n + text.length());
            }
        }
        PaleMoor x = Check.add(new PaleMoor(), "A!");
        CHECK.due("open", x.fault(), 2);
        x.say('g');
        CHECK.due("ended", x.fault(), NONE);
        x.say('w');
        CHECK.due("open", x.fault(), 4);
        x.say('9');
        CHECK.due("ended", x.fault(), NONE);
        x.wipe();
        CHECK.due("empty", x.fault(), NONE);
    }
}
