/** The sentences of promises 25 to 27 that name a boundary, each with a test. */
public final class ImagesBoundsTest {
    private static final Check CHECK = new Check();
    private static final int NONE = -6, OUTSIDE = -2, STATE = -3;
    private static final int LEAST = Integer.MIN_VALUE, MOST = Integer.MAX_VALUE;

    /** What is done to an object. */
    private interface Change {
        void on(PaleMoor x);
    }

    public static void main(String[] args) {
        imagesAre0And1();
        itWasNot();
        ofANewObject();
        asItWasWhenItWasKept();
        allButThePad();
        fullSightsAndLastDay();
        keptAnew();
        eachByItself();
        ofAllOutside();
        ofFarms();
        ofOnes();
        ofPairs();
        toldNumbers();
        CHECK.end();
    }

    /** "an IMAGE (0, 1)", OUTSIDE. */
    private static void imagesAre0And1() {
        PaleMoor x = new PaleMoor();
        for (int n : new int[] {LEAST, -2, -1, 2, 3, MOST}) {
            CHECK.due("image(" + n + ")", x.image(n), OUTSIDE);
            CHECK.due("restore(" + n + ")", x.restore(n), OUTSIDE);
        }
        CHECK.due("0 was not kept by these", x.restore(0), STATE);
        CHECK.due("1 was not kept by these", x.restore(1), STATE);
        CHECK.due("image(0)", x.image(0), 1);
        CHECK.due("image(1)", x.image(1), 1);
        for (int n : new int[] {LEAST, -1, 2, MOST}) {
            CHECK.due("restore(" + n + "), both being kept", x.restore(n), OUTSIDE);
        }
        CHECK.due("restore(0)", x.restore(0), 1);
        CHECK.due("restore(1)", x.restore(1), 1);
    }

    /** "STATE: it was not": the other being kept does not help, nor does a restore. */
    private static void itWasNot() {
        for (int n = 0; n <= 1; n++) {
            PaleMoor x = Check.moor();
            CHECK.due("neither", x.restore(n), STATE);
            x.image(1 - n);
            CHECK.due("the other", x.restore(n), STATE);
            CHECK.due("that one", x.restore(1 - n), 1);
            CHECK.due("still the other", x.restore(n), STATE);
            CHECK.due("all as it was", x.told(101), 4);
        }
    }

    /** An image of a new object: all goes back to how it was at first. */
    private static void ofANewObject() {
        PaleMoor x = new PaleMoor();
        x.image(1);
        x.pale(0, 6, 0);
        x.road(0, 6, 1);
        x.farm(0, 99, 6);
        x.likes(0, 0, 3210);
        x.seen(0, 0, true);
        Check.put(x, ".").done();
        x.restore(1);
        PaleMoor y = new PaleMoor();
        y.image(1);
        new View(x).isAs(new View(y), "an image of a new object", CHECK);
    }

    private static PaleMoor kept(int n) {
        PaleMoor x = Check.moor();
        x.seen(5, 40, true);
        x.image(n);
        return x;
    }

    /** "It is as it was when it was kept": each thing that there is, changed behind the image. */
    private static void asItWasWhenItWasKept() {
        Change[] changes = {
            x -> x.pale(0, 1, 0), x -> x.pale(0, 1, -1), x -> x.pale(5, 6, 9), x -> x.road(0, 1, 0),
            x -> x.road(5, 6, 1), x -> x.farm(6, 99, 6), x -> x.farm(0, 5, 6), x -> x.likes(0, 0, 3210),
            x -> x.likes(1, 3, 3210), x -> x.seen(0, 7, true), PaleMoor::forget, x -> Check.put(x, "w1").done(),
            x -> Check.put(x, ".").done(), x -> Check.put(x, "Ad").done()};
        for (int n = 0; n <= 1; n++) {
            View due = new View(kept(n));
            for (int i = 0; i < changes.length; i++) {
                PaleMoor x = kept(n);
                changes[i].on(x);
                CHECK.due("restored", x.restore(n), 1);
                new View(x).isAs(due, "change " + i, CHECK);
            }
        }
    }

    /** "All but the PAD is kept": an empty one, a full one and one with a fault stay as they are now. */
    private static void allButThePad() {
        PaleMoor x = Check.put(Check.moor(), "Ad");
        x.image(0);
        CHECK.due("signs behind image", x.told(0), 2);
        x.wipe();
        x.restore(0);
        CHECK.due("an empty pad stays empty", x.told(0), 0);
        CHECK.due("nothing is on it", x.done(), 0);
        Check.put(x, ".".repeat(60));
        x.restore(0);
        CHECK.due("a full one stays full", x.say('.'), PaleMoor.FULL);
        CHECK.due("it can be done", x.done(), 60);
        CHECK.due("day 60", x.told(3), 60);
        Check.put(x, "A!");
        x.restore(0);
        CHECK.due("the fault stays", x.fault(), 2);
        CHECK.due("the day does not", x.told(3), 0);
        Check.put(x, "Ad");
        x.farm(0, 5, 3);
        CHECK.due("he is there already", x.judge(1), 1);
        x.restore(0);
        CHECK.due("now he is not", x.judge(1), NONE);
    }

    /** What is full, or at its end, is so again behind restore. */
    private static void fullSightsAndLastDay() {
        PaleMoor x = new PaleMoor();
        for (int i = 0; i < 8; i++) {
            x.seen(0, 40, true);
        }
        Check.put(x, ".".repeat(60)).done();
        Check.put(x, ".".repeat(39)).done();
        x.image(0);
        CHECK.due("forgotten", x.forget(), 8);
        CHECK.due("room", x.seen(0, 0, true), 1);
        x.restore(0);
        CHECK.due("no room", x.seen(0, 40, true), PaleMoor.FULL);
        CHECK.due("what fits", x.posts(-1), 10);
        CHECK.due("sights", x.told(4), 8);
        CHECK.due("no day more", Check.put(x, ".").judge(1), 7);
    }

    /** An image that is kept anew is as it is then; one that is restored stays kept. */
    private static void keptAnew() {
        PaleMoor x = new PaleMoor();
        for (int s = 0; s <= 9; s++) {
            x.pale(0, 1, s);
            x.image(0);
            x.pale(0, 1, 9 - s);
            CHECK.due("restored", x.restore(0), 1);
            CHECK.due("kept anew", x.told(101), s);
            x.pale(0, 1, -1);
            CHECK.due("restored again", x.restore(0), 1);
            CHECK.due("kept still", x.told(101), s);
        }
    }

    /** The two images are each by itself, and so are two objects. */
    private static void eachByItself() {
        PaleMoor x = new PaleMoor();
        x.farm(0, 1, 0);
        x.image(0);
        x.farm(0, 2, 0);
        x.image(1);
        x.farm(0, 3, 0);
        PaleMoor y = new PaleMoor();
        CHECK.due("of another object", y.restore(0), STATE);
        x.restore(0);
        CHECK.due("0", x.told(20), 1);
        x.restore(1);
        CHECK.due("1", x.told(20), 2);
        x.restore(0);
        x.image(1);
        x.farm(0, 4, 0);
        x.restore(1);
        CHECK.due("1, kept from 0", x.told(20), 1);
        CHECK.due("another object", y.told(20), 5);
    }

    /** "0 signs, .. 4 SIGHTS", OUTSIDE. */
    private static void ofAllOutside() {
        PaleMoor x = new PaleMoor();
        x.say('.');
        x.pale(0, 1, 0);
        x.pale(0, 2, 0);
        x.farm(2, 5, 3);
        Check.put(x, "...").done();
        Check.put(x, ".");
        for (int i = 0; i < 5; i++) {
            x.seen(0, 0, true);
        }
        int[] due = {1, 2, 4, 3, 5};
        for (int what = 0; what <= 4; what++) {
            CHECK.due("told(" + what + ")", x.told(what), due[what]);
        }
        int[] none = {LEAST, LEAST + 1, -200, -101, -100, -30, -20, -10, -4, -2, -1, 5, 6, 7, 8, 9};
        for (int what : none) {
            CHECK.due("told(" + what + ")", x.told(what), OUTSIDE);
        }
    }

    /** "10 and a FARM: where its MAN is; 20 and a FARM: COWS": farms 0 to 6. */
    private static void ofFarms() {
        PaleMoor x = new PaleMoor();
        for (int f = 0; f < 7; f++) {
            x.farm(f, 90 + f, (f + 3) % 7);
        }
        for (int f = 0; f <= 9; f++) {
            CHECK.due("told(" + (10 + f) + ")", x.told(10 + f), f < 7 ? (f + 3) % 7 : OUTSIDE);
            CHECK.due("told(" + (20 + f) + ")", x.told(20 + f), f < 7 ? 90 + f : OUTSIDE);
        }
    }

    /** "30 and 10 times a side and a ONE": sides 0 and 1, ones 0 to 3. */
    private static void ofOnes() {
        PaleMoor x = new PaleMoor();
        int[] rows = {123, 132, 213, 231, 312, 321, 1023, 1032};
        for (int i = 0; i < 8; i++) {
            x.likes(i / 4, i % 4, rows[i]);
        }
        for (int what = 30; what <= 99; what++) {
            int side = what / 10 - 3;
            int one = what % 10;
            CHECK.due("told(" + what + ")", x.told(what), side < 2 && one < 4 ? rows[4 * side + one] : OUTSIDE);
        }
    }

    /** "100 and 10 times a FARM and a FARM: STRENGTH (NONE; of one to itself, too); 200 and likewise: MILES (0)". */
    private static void ofPairs() {
        PaleMoor x = new PaleMoor();
        for (int a = 0; a < 7; a++) {
            for (int b = a + 1; b < 7; b++) {
                x.pale(a, b, (a + b) % 10);
                x.road(b, a, (a + b) % 9 + 1);
            }
        }
        x.pale(2, 4, -1);
        x.road(2, 4, 0);
        for (int a = 0; a <= 9; a++) {
            for (int b = 0; b <= 9; b++) {
                boolean farms = a < 7 && b < 7;
                boolean none = a == b || a == 2 && b == 4 || a == 4 && b == 2;
                int strength = !farms ? OUTSIDE : none ? NONE : (a + b) % 10;
                int miles = !farms ? OUTSIDE : none ? 0 : (a + b) % 9 + 1;
                CHECK.due("told(1" + a + b + ")", x.told(100 + 10 * a + b), strength);
                CHECK.due("told(2" + a + b + ")", x.told(200 + 10 * a + b), miles);
            }
        }
    }

    /** "OUTSIDE": every other number, also those that look alike left over by 100, 300 or 1000. */
    private static void toldNumbers() {
        for (int from = -1000; from < 2400; from += 400) {
            PaleMoor x = new PaleMoor();
            for (int what = from; what < from + 400; what++) {
                int b = Math.floorMod(what, 10);
                int a = Math.floorMod(Math.floorDiv(what, 10), 10);
                boolean is = what >= 0 && what <= 4 || what >= 10 && what < 30 && b < 7
                    || what >= 30 && what < 50 && b < 4 || what >= 100 && what < 300 && a < 7 && b < 7;
                CHECK.due("told(" + what + "), outside or not", x.told(what) == OUTSIDE ? 0 : 1, is ? 1 : 0);
            }
        }
        PaleMoor x = new PaleMoor();
        for (int what : new int[] {LEAST, LEAST + 101, -65536, 65536, 65536 + 101, 100000, 1000000, MOST - 1, MOST}) {
            CHECK.due("told(" + what + ")", x.told(what), OUTSIDE);
        }
    }
}
