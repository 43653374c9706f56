/**
 * All that can be asked of an object, as one text: two objects with the same text are in the same
 * state. No single object is asked more often than the document allows; a new one takes over.
 */
final class Transcript {
    /** Makes an object, always by the same calls. */
    interface Maker {
        FireLines make();
    }

    private static final int MOST_ASKED = 250;
    private static final int[] MINUTES = {0, 10, 20, 30, 60, 100, 500, 4999, 5000};

    private final Maker maker;
    private final StringBuilder text = new StringBuilder();
    private FireLines object;
    private int asked;

    private Transcript(Maker maker) {
        this.maker = maker;
        this.object = maker.make();
    }

    static String of(Maker maker) {
        Transcript transcript = new Transcript(maker);
        transcript.askOfFire();
        transcript.askOfCells();
        transcript.askOfAllElse();
        transcript.tryLimits();
        transcript.tryOrders();
        return transcript.text.toString();
    }

    private FireLines next() {
        if (asked >= MOST_ASKED) {
            anew();
        }
        asked++;
        return object;
    }

    private void anew() {
        object = maker.make();
        asked = 0;
    }

    private void put(String what, int a, int b, long answer) {
        text.append(what).append('(').append(a).append(", ").append(b).append(") ").append(answer).append('\n');
    }

    private void put(String what, int a, int b, boolean answer) {
        put(what, a, b, answer ? 1 : 0);
    }

    private void askOfFire() {
        int cells = next().count(0) * next().count(1);
        int worlds = next().count(2);
        for (int w = 0; w < worlds; w++) {
            for (int c = 0; c < cells; c++) {
                put("burns", w, c, next().burns(w, c));
                put("from", w, c, next().from(w, c));
            }
            for (int minute : MINUTES) {
                put("burnt", w, minute, next().burnt(w, minute));
            }
        }
    }

    private void askOfCells() {
        int cells = next().count(0) * next().count(1);
        for (int c = 0; c < cells; c++) {
            for (int what = 0; what < 10; what++) {
                put("about", c, what, next().about(c, what));
            }
            for (int minute : MINUTES) {
                put("out", c, minute, next().out(c, minute));
            }
        }
    }

    private void askOfAllElse() {
        for (int what = 0; what < 8; what++) {
            put("count", what, 0, next().count(what));
        }
        for (int k = 0; k < 6; k++) {
            for (int what = 0; what < 3; what++) {
                put("look", k, what, next().look(k, what));
            }
        }
        for (int v = 0; v < 6; v++) {
            put("last", v, 0, next().last(v));
            for (int i = 0; i < 12; i++) {
                put("way", v, i, next().way(v, i));
            }
        }
        for (int k = 0; k <= 6; k++) {
            put("plan", k, 0, next().plan(k));
        }
    }

    /** What only shows when more is told: how many there are already, and which wind is the latest. */
    private void tryLimits() {
        for (int w = 0; w < 4; w++) {
            for (int minute : MINUTES) {
                anew();
                put("wind", w, minute, object.wind(w, minute, 0, 9));
                put("then burns", w, 1, object.burns(w, 1));
            }
            anew();
            for (int i = 0; i < 9; i++) {
                put("one more wind", w, i, object.wind(w, 4000 + i, 0, 0));
            }
        }
        anew();
        for (int i = 0; i < 41; i++) {
            put("one more drop", i, 0, object.drop(0, 0));
        }
        for (int i = 0; i < 7; i++) {
            put("one more crew", i, 0, object.crew(0));
            put("its minute", i, 1, object.look(i, 1));
            put("its orders", i, 2, object.look(i, 2));
            put("one more village", i, 0, object.village(0, 1, 1));
            put("one more world", i, 0, object.world());
        }
        int cells = object.count(0) * object.count(1);
        anew();
        for (int c = 0; c < cells; c++) {
            put("one more for the plan", c, 0, object.maybe(c));
        }
        put("then plan", 6, 0, object.plan(6));
    }

    private void tryOrders() {
        int cells = object.count(0) * object.count(1);
        for (int k = 0; k < 6; k++) {
            for (int c = 0; c < cells; c++) {
                anew();
                put("order to " + k, c, 0, object.order(k, c, 0));
            }
        }
        anew();
        for (int i = 0; i < 61; i++) {
            put("one more order", i, 0, object.order(0, Math.max(0, object.look(0, 0)), 0));
        }
    }
}
