/** Counts answers that are not as due, and ends a test with exit code 1 if there was one. */
final class Check {
    private int wrong = 0;
    private int asked = 0;

    int asked() {
        return asked;
    }

    void due(String call, long got, long want) {
        asked++;
        if (got != want) {
            wrong++;
            if (wrong <= 50) {
                System.out.println(call + " answered " + got + ", due is " + want);
            }
        }
    }

    void holds(String what, boolean holds) {
        asked++;
        if (!holds) {
            wrong++;
            System.out.println("does not hold: " + what);
        }
    }

    void end() {
        System.out.println(wrong == 0 ? asked + " answers are as due" : wrong + " answers are not as due");
        if (wrong != 0) {
            System.exit(1);
        }
    }

    /** Puts a text on the pad in place of what is there. */
    static PaleMoor put(PaleMoor x, String text) {
        x.wipe();
        return add(x, text);
    }

    static PaleMoor add(PaleMoor x, String text) {
        for (char sign : text.toCharArray()) {
            x.say(sign);
        }
        return x;
    }

    /** The moor on which most tests go: pales ab 4, ac 9, bc 1; roads ad 2, bd 3, ab 9, bc 4. */
    static PaleMoor moor() {
        PaleMoor x = new PaleMoor();
        x.pale(0, 1, 4);
        x.pale(0, 2, 9);
        x.pale(1, 2, 1);
        x.road(0, 3, 2);
        x.road(3, 1, 3);
        x.road(0, 1, 9);
        x.road(1, 2, 4);
        return x;
    }
}
