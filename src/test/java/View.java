import java.util.LinkedHashMap;
import java.util.Map;

/** An object's state, and that of its images, as told and some other calls answer it: some 250 of its 512 calls. */
final class View {
    private final Map<String, Long> answers = new LinkedHashMap<>();
    private final PaleMoor x;

    /** Looks at an object, which is not to be used behind that: its images are restored. */
    View(PaleMoor x) {
        this.x = x;
        lookAtAll("");
        lookAtPad();
        for (int n = 0; n <= 1; n++) {
            put("restore(" + n + ")", x.restore(n));
            lookAtAll("image " + n + ": ");
        }
        put("the pad behind restore", x.told(0));
    }

    private void put(String call, long answer) {
        answers.put(call, answer);
    }

    private void told(String when, int what) {
        put(when + "told(" + what + ")", x.told(what));
    }

    private void lookAtAll(String when) {
        for (int what = 0; what <= 4; what++) {
            told(when, what);
        }
        for (int a = 0; a < 7; a++) {
            told(when, 10 + a);
            told(when, 20 + a);
            for (int b = a + 1; b < 7; b++) {
                told(when, 100 + 10 * a + b);
                told(when, 200 + 10 * a + b);
            }
        }
        for (int one = 0; one < 4; one++) {
            told(when, 30 + one);
            told(when, 40 + one);
        }
        put(when + "posts(-1)", x.posts(-1));
        put(when + "posts(0)", x.posts(0));
        put(when + "steady()", x.steady());
    }

    private void lookAtPad() {
        put("fault()", x.fault());
        put("judge(0)", x.judge(0));
        put("judge(1)", x.judge(1));
        for (int what = 0; what <= 5; what++) {
            put("then(" + what + ")", x.then(what));
        }
    }

    /** Checks that this is what another object, of which it is known what was called, shows. */
    void isAs(View due, String label, Check check) {
        for (Map.Entry<String, Long> entry : due.answers.entrySet()) {
            check.due(label + ": " + entry.getKey(), answers.get(entry.getKey()), entry.getValue());
        }
    }
}
