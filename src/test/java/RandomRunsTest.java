import java.util.Random;

/** Runs of some 480 random calls, ordinary and wrong ones, on PaleMoor and on Oracle. */
public final class RandomRunsTest {
    private static final Check CHECK = new Check();
    private static final int RUNS = 900;
    // An object has 512 calls; a step (an act said, what can not be wiped, the rest said again) is 64 at the most.
    private static final int CALLS_BEFORE_LAST_STEP = 512 - 64;
    private static final String[] TEXTS = {
        ".", "..", "w1", "w2", "w9", "A*", "B*", "C*", "D*", "A!b", "B!a", "C!d", "D!c", "E!f", "F!g", "A!a"};
    private static final int[] ODD = {Integer.MIN_VALUE, -123456, -7, -2, -1, 7, 8, 10, 100, 65536, Integer.MAX_VALUE};

    private final Random draw;
    private final PaleMoor x = new PaleMoor();
    private final Oracle o = new Oracle();

    private RandomRunsTest(long seed) {
        draw = new Random(seed);
    }

    public static void main(String[] args) {
        for (int run = 0; run < RUNS; run++) {
            RandomRunsTest test = new RandomRunsTest(run);
            int asked = CHECK.asked();
            test.begin(run % 4);
            while (CHECK.asked() - asked < CALLS_BEFORE_LAST_STEP) {
                test.call(run);
            }
        }
        pureCalls();
        CHECK.end();
    }

    /** Some runs begin with many pales and roads, so that most acts can be. */
    private void begin(int density) {
        for (int a = 0; a < 7; a++) {
            for (int b = a + 1; b < 7; b++) {
                if (draw.nextInt(3) < density) {
                    pale(a, b, draw.nextInt(10));
                }
                if (draw.nextInt(3) < density) {
                    road(a, b, 1 + draw.nextInt(9));
                }
            }
        }
    }

    private int some(int bound) {
        return draw.nextInt(40) == 0 ? ODD[draw.nextInt(ODD.length)] : draw.nextInt(bound);
    }

    private void pale(int a, int b, int s) {
        CHECK.due("pale(" + a + ", " + b + ", " + s + ")", x.pale(a, b, s), o.pale(a, b, s));
    }

    private void road(int a, int b, int m) {
        CHECK.due("road(" + a + ", " + b + ", " + m + ")", x.road(a, b, m), o.road(a, b, m));
    }

    private void call(int run) {
        String at = "run " + run + " ";
        int p = some(8);
        int q = some(8);
        switch (draw.nextInt(30)) {
            case 0 -> pale(p, q, some(11) - 1);
            case 1 -> road(p, q, some(11));
            case 2 -> {
                int c = some(102);
                CHECK.due(at + "farm", x.farm(p, c, q), o.farm(p, c, q));
            }
            case 3 -> {
                int one = some(5);
                int side = some(2);
                int row = draw.nextInt(3) == 0 ? some(4000) : shuffledRow();
                CHECK.due(at + "likes", x.likes(side, one, row), o.likes(side, one, row));
            }
            case 4, 5, 6, 7, 8, 9 -> sayAct(at);
            case 10 -> {
                int sign = draw.nextInt(4) == 0 ? some(140) : "ABCabc*!w.19".charAt(draw.nextInt(12));
                if (draw.nextInt(4) == 0) {
                    CHECK.due(at + "say", x.say(sign), o.say(sign));
                }
            }
            case 11 -> CHECK.due(at + "wipe", x.wipe(), o.wipe());
            case 12 -> CHECK.due(at + "fault " + o.pad, x.fault(), o.fault());
            case 13 -> CHECK.due(at + "judge 0 " + o.pad, x.judge(0), o.judge(0));
            case 14 -> CHECK.due(at + "judge 1 " + o.pad, x.judge(1), o.judge(1));
            case 15 -> CHECK.due(at + "done " + o.pad, x.done(), o.done());
            case 16 -> CHECK.due(at + "behind " + o.pad, x.behind(p, q), o.behind(p, q));
            case 17 -> {
                int what = some(3);
                CHECK.due(at + "goes " + o.pad, x.goes(p, what), o.goes(p, what));
            }
            case 18 -> {
                for (int what = 0; what < 6; what++) {
                    CHECK.due(at + "then " + what + " " + o.pad, x.then(what), o.then(what));
                }
            }
            default -> otherCall(at, p, q);
        }
    }

    private void otherCall(String at, int p, int q) {
        int what = some(2);
        switch (draw.nextInt(12)) {
            case 0 -> CHECK.due(at + "round", x.round(p, q), o.round(p, q));
            case 1 -> CHECK.due(at + "mends", x.mends(p), o.mends(p));
            case 2 -> CHECK.due(at + "steady", x.steady(), o.steady());
            case 3 -> {
                int one = some(4);
                int best = some(2);
                CHECK.due(at + "wed", x.wed(what, one, best), o.wed(what, one, best));
            }
            case 4 -> {
                int days = some(6);
                int post = draw.nextBoolean() ? some(60) : some(100);
                boolean down = draw.nextInt(3) == 0;
                CHECK.due(at + "seen", x.seen(days, post, down), o.seen(days, post, down));
            }
            case 5 -> {
                if (draw.nextInt(3) == 0) {
                    CHECK.due(at + "forget", x.forget(), o.forget());
                }
            }
            case 6 -> {
                int i = some(420) - 1;
                CHECK.due(at + "posts", x.posts(i), o.posts(i));
                CHECK.due(at + "posts", x.posts(-1), o.posts(-1));
            }
            case 7 -> CHECK.due(at + "ask", x.ask(what), o.ask(what));
            case 8 -> {
                int seed = some(10000);
                int m = some(100);
                int of = some(3);
                CHECK.due(at + "year", x.year(seed, m, of), o.year(seed, m, of));
            }
            case 9 -> CHECK.due(at + "image", x.image(what), o.image(what));
            case 10 -> CHECK.due(at + "restore", x.restore(what), o.restore(what));
            default -> {
                int of = some(310);
                CHECK.due(at + "told " + of, x.told(of), o.told(of));
            }
        }
    }

    /** Says a whole act, more often than not one that can be: what can not be is wiped again most times. */
    private void sayAct(String at) {
        String text = draw.nextInt(3) == 0 ? TEXTS[draw.nextInt(TEXTS.length)]
            : "" + (char) ('A' + draw.nextInt(7)) + "*!abcdefg".charAt(draw.nextInt(9));
        text = text.endsWith("!") ? text + (char) ('a' + draw.nextInt(7)) : text;
        for (char sign : text.toCharArray()) {
            CHECK.due(at + "say", x.say(sign), o.say(sign));
        }
        if (o.judge(0) != Oracle.NONE && draw.nextInt(8) != 0) {
            String kept = o.pad.substring(0, Math.max(0, o.pad.length() - text.length()));
            CHECK.due(at + "wipe", x.wipe(), o.wipe());
            for (char sign : kept.toCharArray()) {
                CHECK.due(at + "say", x.say(sign), o.say(sign));
            }
        }
    }

    private int shuffledRow() {
        java.util.List<Integer> four = new java.util.ArrayList<>(java.util.List.of(0, 1, 2, 3));
        java.util.Collections.shuffle(four, draw);
        return 1000 * four.get(0) + 100 * four.get(1) + 10 * four.get(2) + four.get(3);
    }

    /** Calls that depend on nothing but their numbers: all of them. */
    private static void pureCalls() {
        PaleMoor x = new PaleMoor();
        for (int n = 0; n <= 32; n++) {
            CHECK.due("heaps " + n, x.heaps(n, 0), Oracle.heaps(n, 0));
            CHECK.due("heaps " + n, x.heaps(n, 1), Oracle.heaps(n, 1));
        }
        for (int n = 0; n <= 13; n++) {
            for (int m = 0; m <= 10; m++) {
                x = new PaleMoor();
                for (int k = 0; k <= 11; k++) {
                    for (int i = 0; i < 9; i++) {
                        CHECK.due("gust " + n + " " + m + " " + k + " " + i, x.gust(n, m, k, i / 3, i % 3),
                            Oracle.gust(n, m, k, i / 3, i % 3));
                    }
                }
            }
        }
    }
}
