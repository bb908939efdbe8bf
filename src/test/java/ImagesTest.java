/** Promises 25 to 27: image, restore, told. */
public final class ImagesTest {
    private static final Check CHECK = new Check();

    public static void main(String[] args) {
        images();
        imageRefusals();
        toldOfAll();
        toldOutside();
        CHECK.end();
    }

    private static PaleMoor changed() {
        PaleMoor x = Check.moor();
        x.farm(2, 17, 4);
        x.likes(1, 2, 3201);
        x.seen(0, 7, true);
        Check.put(x, "..").done();
        return x;
    }

    private static void changeAll(PaleMoor x) {
        x.pale(0, 1, 0);
        x.pale(5, 6, 3);
        x.road(0, 3, 9);
        x.farm(2, 1, 2);
        x.likes(1, 2, 123);
        x.likes(0, 0, 3210);
        x.seen(1, 8, true);
        Check.put(x, ".").done();
    }

    /** Each pair of farms is told once alone: an object has 512 calls, and it is looked at six times. */
    private static int[] all(PaleMoor x) {
        int[] answers = new int[304];
        for (int what = 1; what < 267; what++) {
            boolean isPair = what >= 100 && what / 10 % 10 < what % 10 && what % 10 < 7;
            if (what < 5 || what >= 10 && what < 44 && what % 10 < 7 || isPair) {
                answers[what] = x.told(what);
            }
        }
        answers[300] = x.posts(-1);
        answers[301] = x.ask(0);
        answers[302] = x.steady();
        answers[303] = x.wed(1, 2, 1);
        return answers;
    }

    private static void same(String what, int[] got, int[] want) {
        for (int i = 0; i < want.length; i++) {
            CHECK.due(what + " " + i, got[i], want[i]);
        }
    }

    private static void images() {
        PaleMoor x = changed();
        int[] first = all(x);
        CHECK.due("kept", x.image(0), 1);
        same("keeping changes nothing", all(x), first);
        changeAll(x);
        int[] second = all(x);
        CHECK.due("kept", x.image(1), 1);
        Check.put(x, "Ab.");
        CHECK.due("restored", x.restore(0), 1);
        same("as the first", all(x), first);
        CHECK.due("the pad stays", x.told(0), 3);
        changeAll(x);
        CHECK.due("restored", x.restore(1), 1);
        same("as the second", all(x), second);
        CHECK.due("restored again", x.restore(0), 1);
        same("as the first again", all(x), first);
        x.forget();
        CHECK.due("kept anew", x.image(1), 1);
        x.seen(0, 0, true);
        x.restore(1);
        CHECK.due("sights forgotten when kept", x.told(4), 0);
        CHECK.due("posts then", x.posts(-1), 410);
        PaleMoor y = new PaleMoor();
        y.likes(0, 0, 1023);
        y.image(0);
        y.likes(0, 0, 123);
        CHECK.due("0 and 0 like each other best", y.wed(0, 0, 0), 0);
        y.restore(0);
        CHECK.due("0 likes 1 best again, who likes 0 best", y.wed(0, 0, 0), 1);
    }

    private static void imageRefusals() {
        PaleMoor x = new PaleMoor();
        for (int no : new int[] {-1, 2, Integer.MIN_VALUE, Integer.MAX_VALUE}) {
            CHECK.due("image", x.image(no), PaleMoor.OUTSIDE);
            CHECK.due("restore", x.restore(no), PaleMoor.OUTSIDE);
        }
        CHECK.due("not kept", x.restore(1), PaleMoor.STATE);
        x.image(1);
        CHECK.due("the other was not kept", x.restore(0), PaleMoor.STATE);
        CHECK.due("kept", x.restore(1), 1);
    }

    private static void toldOfAll() {
        PaleMoor x = changed();
        x.pale(3, 5, 0);
        x.seen(5, 8, true);
        Check.put(x, "abc");
        int[][] due = {
            {0, 3}, {1, 1}, {2, 4}, {3, 2}, {4, 2}, {10, 0}, {12, 4}, {16, 6}, {20, 5}, {22, 17}, {26, 5}, {30, 123},
            {33, 123}, {40, 123}, {42, 3201}, {43, 123}, {101, 4}, {110, 4}, {102, 9}, {121, 1}, {135, 0}, {153, 0},
            {100, -6}, {166, -6}, {156, -6}, {203, 2}, {230, 2}, {213, 3}, {201, 9}, {212, 4}, {200, 0}, {266, 0}};
        for (int[] row : due) {
            CHECK.due("told(" + row[0] + ")", x.told(row[0]), row[1]);
        }
    }

    private static void toldOutside() {
        PaleMoor x = changed();
        int[] outside = {
            -1, 5, 9, 17, 19, 27, 29, 34, 39, 44, 50, 53, 99, 107, 109, 170, 177, 199, 207, 270, 277, 300, 301, 1101,
            Integer.MIN_VALUE, Integer.MAX_VALUE};
        for (int what : outside) {
            CHECK.due("told(" + what + ")", x.told(what), PaleMoor.OUTSIDE);
        }
    }
}
