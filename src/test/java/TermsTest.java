import java.util.ArrayList;
import java.util.List;

/** 'Terms': which refusal comes first, that refused calls change nothing, fractions, sets; and the 512 calls. */
public final class TermsTest {
    private static final Check CHECK = new Check();
    private static final int UNKNOWN = -1, OUTSIDE = -2, STATE = -3, FULL = -4, NO = -5;
    private static final int LEAST = Integer.MIN_VALUE, MOST = Integer.MAX_VALUE;

    /** What is asked of an object. */
    private interface Call {
        long on(PaleMoor x);
    }

    /** How an object is made ready. */
    private interface Maker {
        PaleMoor made();
    }

    private record Refused(String name, long answer, Call call) {
    }

    private final List<Refused> rows = new ArrayList<>();

    public static void main(String[] args) {
        refusedOnAFault();
        refusedByWhatCanNotBe();
        refusedWithoutImages();
        lookingChangesNothing();
        fractionsAreInLowestTerms();
        setsAreBits();
        fiveHundredAndTwelveCalls();
        CHECK.end();
    }

    /** Everything is other than at first, both images are kept and differ, and there are eight sights. */
    private static PaleMoor busy() {
        PaleMoor x = Check.moor();
        Check.put(x, "..w1").done();
        x.likes(1, 2, 3201);
        x.seen(0, 7, true);
        x.image(0);
        x.farm(2, 17, 4);
        x.pale(4, 5, 0);
        x.road(4, 5, 6);
        x.likes(0, 3, 1032);
        x.image(1);
        x.farm(5, 99, 1);
        for (int i = 1; i < 8; i++) {
            x.seen(5, 6, false);
        }
        return x;
    }

    private static PaleMoor withFault() {
        return Check.put(busy(), ".".repeat(59) + "A");
    }

    private static PaleMoor withWhatCanNotBe() {
        return Check.put(busy(), "AbAb");
    }

    private void row(String name, long answer, Call call) {
        rows.add(new Refused(name, answer, call));
    }

    /** Makes each call of the rows on an object of its own: it answers as due, and all is as if it had not been. */
    private void run(Maker maker) {
        View before = new View(maker.made());
        for (Refused r : rows) {
            PaleMoor x = maker.made();
            CHECK.due(r.name, r.call.on(x), r.answer);
            new View(x).isAs(before, r.name + " changes nothing", CHECK);
        }
    }

    private static void refusedOnAFault() {
        TermsTest t = new TermsTest();
        t.unknowns();
        t.outsides();
        t.numbersOutside();
        t.row("say, no room", FULL, x -> x.say('.'));
        t.row("seen, no room", FULL, x -> x.seen(0, 0, true));
        t.notDone();
        t.row("judge(0)", NO, x -> x.judge(0));
        t.row("judge(1)", NO, x -> x.judge(1));
        t.run(TermsTest::withFault);
    }

    private static void refusedByWhatCanNotBe() {
        TermsTest t = new TermsTest();
        t.notDone();
        t.row("behind: unknown ahead of no", UNKNOWN, x -> x.behind(0, 7));
        t.row("goes: unknown ahead of no", UNKNOWN, x -> x.goes(7, 0));
        t.row("goes: outside ahead of no", OUTSIDE, x -> x.goes(0, 2));
        t.row("then: outside ahead of no", OUTSIDE, x -> x.then(6));
        t.run(TermsTest::withWhatCanNotBe);
    }

    private static void refusedWithoutImages() {
        TermsTest t = new TermsTest();
        t.row("restore(0)", STATE, x -> x.restore(0));
        t.row("restore(1)", STATE, x -> x.restore(1));
        t.row("restore: outside ahead of state", OUTSIDE, x -> x.restore(2));
        t.row("restore: outside ahead of state", OUTSIDE, x -> x.restore(-1));
        t.run(Check::moor);
    }

    private void notDone() {
        row("done()", NO, PaleMoor::done);
        row("behind(0, 1)", NO, x -> x.behind(0, 1));
        row("behind(3, 4), no pale", NO, x -> x.behind(3, 4));
        row("goes(0, 0)", NO, x -> x.goes(0, 0));
        row("goes(0, 1)", NO, x -> x.goes(0, 1));
        for (int what = 0; what <= 5; what++) {
            int of = what;
            row("then(" + of + ")", NO, x -> x.then(of));
        }
    }

    /** UNKNOWN comes first, whatever else is wrong. */
    private void unknowns() {
        for (int no : new int[] {-1, 7, LEAST, MOST}) {
            for (int strength : new int[] {3, 10, -2}) {
                row("pale(" + no + ", 1, " + strength + ")", UNKNOWN, x -> x.pale(no, 1, strength));
                row("pale(1, " + no + ", " + strength + ")", UNKNOWN, x -> x.pale(1, no, strength));
                row("road(" + no + ", 1, " + strength + ")", UNKNOWN, x -> x.road(no, 1, strength));
                row("road(1, " + no + ", " + strength + ")", UNKNOWN, x -> x.road(1, no, strength));
            }
            for (int cows : new int[] {3, 100, -1}) {
                row("farm(" + no + ", " + cows + ", 1)", UNKNOWN, x -> x.farm(no, cows, 1));
                row("farm(1, " + cows + ", " + no + ")", UNKNOWN, x -> x.farm(1, cows, no));
            }
            row("behind(" + no + ", 0)", UNKNOWN, x -> x.behind(no, 0));
            row("behind(0, " + no + ")", UNKNOWN, x -> x.behind(0, no));
            row("goes(" + no + ", 0)", UNKNOWN, x -> x.goes(no, 0));
            row("goes(" + no + ", 2)", UNKNOWN, x -> x.goes(no, 2));
            row("round(" + no + ", 0)", UNKNOWN, x -> x.round(no, 0));
            row("round(0, " + no + ")", UNKNOWN, x -> x.round(0, no));
            row("round(" + no + ", " + no + ")", UNKNOWN, x -> x.round(no, no));
            row("mends(" + no + ")", UNKNOWN, x -> x.mends(no));
        }
        unknownsOfOneAndTheSame();
        unknownOnes();
    }

    private void unknownsOfOneAndTheSame() {
        for (int farm = 0; farm < 7; farm++) {
            int f = farm;
            row("pale of one, " + f, UNKNOWN, x -> x.pale(f, f, 3));
            row("pale of one, outside, " + f, UNKNOWN, x -> x.pale(f, f, 10));
            row("road of one, " + f, UNKNOWN, x -> x.road(f, f, 3));
            row("road of one, outside, " + f, UNKNOWN, x -> x.road(f, f, -1));
            row("behind of one, " + f, UNKNOWN, x -> x.behind(f, f));
        }
    }

    private void unknownOnes() {
        for (int no : new int[] {-1, 2, LEAST, MOST}) {
            row("likes(" + no + ", 0, 3210)", UNKNOWN, x -> x.likes(no, 0, 3210));
            row("likes(" + no + ", 0, 0)", UNKNOWN, x -> x.likes(no, 0, 0));
            row("wed(" + no + ", 0, 0)", UNKNOWN, x -> x.wed(no, 0, 0));
            row("wed(" + no + ", 0, 2)", UNKNOWN, x -> x.wed(no, 0, 2));
        }
        for (int no : new int[] {-1, 4, LEAST, MOST}) {
            row("likes(1, " + no + ", 3210)", UNKNOWN, x -> x.likes(1, no, 3210));
            row("likes(0, " + no + ", 0)", UNKNOWN, x -> x.likes(0, no, 0));
            row("wed(1, " + no + ", 0)", UNKNOWN, x -> x.wed(1, no, 0));
            row("wed(0, " + no + ", 2)", UNKNOWN, x -> x.wed(0, no, 2));
        }
    }

    /** OUTSIDE comes next, ahead of NO, STATE and FULL. */
    private void outsides() {
        for (int no : new int[] {-2, 10, LEAST, MOST}) {
            row("pale(0, 1, " + no + ")", OUTSIDE, x -> x.pale(0, 1, no));
        }
        for (int no : new int[] {-1, 10, LEAST, MOST}) {
            row("road(0, 1, " + no + ")", OUTSIDE, x -> x.road(0, 1, no));
        }
        for (int no : new int[] {-1, 100, LEAST, MOST}) {
            row("farm(0, " + no + ", 1)", OUTSIDE, x -> x.farm(0, no, 1));
            row("seen(0, " + no + ", true)", OUTSIDE, x -> x.seen(0, no, true));
        }
        for (int no : new int[] {-123, 0, 122, 124, 1123, 1234, 3211, 10123, LEAST, MOST}) {
            row("likes(0, 0, " + no + ")", OUTSIDE, x -> x.likes(0, 0, no));
        }
        for (int no : new int[] {32, 127, 0, -65, LEAST, MOST}) {
            row("say(" + no + ")", OUTSIDE, x -> x.say(no));
        }
        for (int no : new int[] {-1, 2, LEAST, MOST}) {
            row("judge(" + no + ")", OUTSIDE, x -> x.judge(no));
            row("goes(0, " + no + ")", OUTSIDE, x -> x.goes(0, no));
            row("wed(0, 0, " + no + ")", OUTSIDE, x -> x.wed(0, 0, no));
            row("ask(" + no + ")", OUTSIDE, x -> x.ask(no));
            row("image(" + no + ")", OUTSIDE, x -> x.image(no));
            row("restore(" + no + ")", OUTSIDE, x -> x.restore(no));
        }
        for (int no : new int[] {-1, 6, LEAST, MOST}) {
            row("then(" + no + ")", OUTSIDE, x -> x.then(no));
            row("seen(" + no + ", 7, false)", OUTSIDE, x -> x.seen(no, 7, false));
        }
    }

    private void numbersOutside() {
        long lost = -1000000000000000002L;
        row("heaps(-1, 0)", OUTSIDE, x -> x.heaps(-1, 0));
        row("heaps(61, 1)", OUTSIDE, x -> x.heaps(61, 1));
        row("heaps(60, 2)", OUTSIDE, x -> x.heaps(60, 2));
        row("gust(13, 9, 9, 0, 0)", lost, x -> x.gust(13, 9, 9, 0, 0));
        row("gust(12, 9, 9, 0, 2)", lost, x -> x.gust(12, 9, 9, 0, 2));
        row("year(10000, 99, 0)", OUTSIDE, x -> x.year(10000, 99, 0));
        row("year(9999, 100, 0)", OUTSIDE, x -> x.year(9999, 100, 0));
        row("year(9999, 99, 3)", OUTSIDE, x -> x.year(9999, 99, 3));
        row("told(5)", OUTSIDE, x -> x.told(5));
        row("told(-1)", OUTSIDE, x -> x.told(-1));
    }

    /** "BEHIND, likewise, not being DONE", "Nothing is DONE in fact": calls that only look, one after another. */
    private static void lookingChangesNothing() {
        for (String text : List.of("AbA*w2..", "AbA!cw2..", "AbA")) {
            PaleMoor x = Check.put(busy(), text);
            for (int i = 0; i < 7; i++) {
                x.behind(i, 6 - i);
                x.goes(i, i % 2);
                x.then(i);
                x.round(i, 6 - i);
                x.mends(i);
                x.posts(i - 2);
                x.year(1000 * i, 99, i % 3);
            }
            x.fault();
            x.judge(0);
            x.judge(1);
            x.steady();
            x.wed(1, 2, 0);
            x.ask(0);
            x.ask(1);
            x.heaps(60, 1);
            x.gust(12, 9, 5, 1, 0);
            new View(x).isAs(new View(Check.put(busy(), text)), "looking changes nothing, " + text, CHECK);
        }
    }

    /** "Fractions are told in lowest terms by part: 0 the upper, 1 the lower number". */
    private static void fractionsAreInLowestTerms() {
        PaleMoor x = new PaleMoor();
        for (int n = 1; n <= 12; n++) {
            for (int m = 1; m <= 9; m++) {
                x = new PaleMoor();
                long all = 1;
                for (int i = 0; i < n; i++) {
                    all *= m;
                }
                long sum = 0;
                for (int k = 1; k <= m; k++) {
                    String of = "gust(" + n + ", " + m + ", " + k + ")";
                    long upper = x.gust(n, m, k, 0, 0);
                    long lower = x.gust(n, m, k, 0, 1);
                    CHECK.due(of + " has no common divisor", common(upper, lower), 1);
                    CHECK.due(of + " is of all ways", all % lower, 0);
                    sum += upper * (all / lower);
                    CHECK.due(of + " mean has none either", common(x.gust(n, m, k, 1, 0), x.gust(n, m, k, 1, 1)), 1);
                }
                CHECK.due("gust(" + n + ", " + m + ") of all k is 1", sum, all);
            }
        }
        CHECK.due("of one only wind: upper", x.gust(12, 1, 1, 1, 0), 1);
        CHECK.due("of one only wind: lower", x.gust(12, 1, 1, 1, 1), 1);
    }

    private static long common(long a, long b) {
        return b == 0 ? a : common(b, a % b);
    }

    /** "Sets are bits": nobody, each alone, all. */
    private static void setsAreBits() {
        CHECK.due("nobody is away", new PaleMoor().told(2), 0);
        for (int man = 0; man < 7; man++) {
            PaleMoor x = new PaleMoor();
            x.farm(man, 5, (man + 1) % 7);
            CHECK.due(man + " alone is away", x.told(2), 1 << man);
            CHECK.due(man + " alone is away behind", x.then(2), 1 << man);
        }
        PaleMoor x = new PaleMoor();
        for (int man = 0; man < 7; man++) {
            x.farm(man, 5, 6 - man == man ? 0 : 6 - man);
        }
        CHECK.due("all are away", x.told(2), 127);
        CHECK.due("all are away behind", x.then(2), 127);
    }

    /** "An object is used for at most 512 calls": the last of them is as the first. */
    private static void fiveHundredAndTwelveCalls() {
        PaleMoor x = new PaleMoor();
        for (int i = 1; i <= 511; i++) {
            CHECK.due("call " + i, x.road(0, 1, i % 9 + 1), i == 1 ? 0 : (i - 1) % 9 + 1);
        }
        CHECK.due("call 512", x.round(1, 0), 511 % 9 + 1);
    }
}
