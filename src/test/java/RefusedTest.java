/** That refused calls change nothing, questions neither, and that no object knows of another. */
public final class RefusedTest extends Sentences {
    /** A call that is to be refused: its answer, a boolean as 1 or 0. */
    private interface Call {
        long on(FireLines x);
    }

    private static final int[] NO_CELL = {LEAST, -1, 36, 63, 64, 1 << 29, 1 << 30, MOST};
    private static final int[] NO_MINUTE = {LEAST, -1, 5001, MOST};

    private static Transcript.Maker state;
    private static String before;

    public static void main(String[] args) {
        sentence("A call that is refused (NONE, false) changes nothing.");
        lookAt(RefusedTest::ordinary);
        refuseWrongNumbers();
        refuseWhatWasTold();
        refuseOrders();
        questionsChangeNothing();
        lookAt(RefusedTest::full);
        refuseWhenFull();
        refuseWrongNumbers();
        lookAt(FireLines::new);
        refuseWhenEmpty();
        refuseWrongNumbers();
        objectsKnowNothingOfEachOther();
        end("RefusedTest");
    }

    /** Something of everything, and room for more of everything. */
    private static FireLines ordinary() {
        FireLines x = new FireLines();
        x.cell(7, 3, 4, 20);
        x.cell(8, 0, 0, 0);
        x.cell(14, 1, 2, 3);
        x.wind(0, 10, 2, 3);
        x.world();
        x.wind(1, 20, 5, 4);
        x.safe(35);
        x.safe(30);
        x.crew(34);
        x.crew(29);
        x.order(0, 28, 5);
        x.order(1, 22, 0);
        x.light(0, 12);
        x.light(20, 400);
        x.not(1, 45);
        x.drop(6, 10);
        x.drop(6, 30);
        x.road(4);
        x.road(5);
        x.road(11);
        x.exit(17);
        x.village(3, 20, 3);
        x.maybe(1);
        x.maybe(6);
        return x;
    }

    /** As many of everything as there can be. */
    private static FireLines full() {
        FireLines x = new FireLines();
        x.cell(35, 1, 0, 0);
        for (int i = 0; i < 8; i++) {
            x.wind(0, i * 10, i, i);
        }
        for (int i = 0; i < 6; i++) {
            x.world();
            x.crew(35);
            x.village(i, 10, 3);
            x.maybe(7 + i);
            x.exit(i + 6);
        }
        for (int i = 0; i < 40; i++) {
            x.drop(i % 5 + 1, i);
        }
        x.safe(35);
        for (int i = 0; i < 60; i++) {
            x.order(i % 6, 35, 0);
        }
        x.light(0, 5);
        return x;
    }

    private static void lookAt(Transcript.Maker maker) {
        state = maker;
        before = Transcript.of(maker);
    }

    private static void refused(String name, long answer, Call call) {
        due(name, call.on(state.make()), answer);
        due("behind " + name, Transcript.of(() -> {
            FireLines x = state.make();
            call.on(x);
            return x;
        }), before);
    }

    private static long bit(boolean answer) {
        return answer ? 1 : 0;
    }

    private static void refuseWrongNumbers() {
        int[] noSize = {LEAST, -1, 0, 1, 9, MOST};
        for (int size : noSize) {
            refused("hills(" + size + ", 5)", 0, x -> bit(x.hills(size, 5)));
            refused("hills(5, " + size + ")", 0, x -> bit(x.hills(5, size)));
        }
        for (int c : NO_CELL) {
            refused("cell(" + c + ", ..)", 0, x -> bit(x.cell(c, 1, 1, 1)));
            refused("light(" + c + ", 0)", 0, x -> bit(x.light(c, 0)));
            refused("not(" + c + ", 0)", 0, x -> bit(x.not(c, 0)));
            refused("drop(" + c + ", 0)", 0, x -> bit(x.drop(c, 0)));
            refused("safe(" + c + ")", 0, x -> bit(x.safe(c)));
            refused("crew(" + c + ")", NONE, x -> x.crew(c));
            refused("order(0, " + c + ", 0)", NONE, x -> x.order(0, c, 0));
            refused("road(" + c + ")", 0, x -> bit(x.road(c)));
            refused("exit(" + c + ")", 0, x -> bit(x.exit(c)));
            refused("village(" + c + ", 1, 1)", NONE, x -> x.village(c, 1, 1));
            refused("maybe(" + c + ")", 0, x -> bit(x.maybe(c)));
        }
        for (int minute : NO_MINUTE) {
            refused("wind at " + minute, 0, x -> bit(x.wind(0, minute, 1, 1)));
            refused("light at " + minute, 0, x -> bit(x.light(5, minute)));
            refused("not at " + minute, 0, x -> bit(x.not(5, minute)));
            refused("drop at " + minute, 0, x -> bit(x.drop(5, minute)));
            refused("order at " + minute, NONE, x -> x.order(0, 34, minute));
        }
        int[][] cells = {{LEAST, 0, 0}, {-1, 0, 0}, {5, 0, 0}, {1, -1, 0}, {1, 10, 0}, {1, MOST, 0},
            {1, 0, -1}, {1, 0, 100}, {1, 0, LEAST}};
        for (int[] n : cells) {
            refused("cell(3, " + n[0] + ", " + n[1] + ", " + n[2] + ")", 0, x -> bit(x.cell(3, n[0], n[1], n[2])));
        }
        int[][] winds = {{-1, 90, 1, 1}, {4, 90, 1, 1}, {MOST, 90, 1, 1}, {0, 90, -1, 1}, {0, 90, 8, 1},
            {0, 90, 1, -1}, {0, 90, 1, 10}, {LEAST, 90, 1, 1}};
        for (int[] n : winds) {
            refused("wind of " + n[0] + " to " + n[2] + " by " + n[3], 0, x -> bit(x.wind(n[0], n[1], n[2], n[3])));
        }
        int[][] villages = {{0, 1}, {501, 1}, {1, 0}, {1, 51}, {LEAST, 1}, {1, MOST}};
        for (int[] n : villages) {
            refused("village(0, " + n[0] + ", " + n[1] + ")", NONE, x -> x.village(0, n[0], n[1]));
        }
    }

    private static void refuseWhatWasTold() {
        refused("a wind at the latest minute", 0, x -> bit(x.wind(0, 10, 7, 7)));
        refused("a wind ahead of it", 0, x -> bit(x.wind(1, 19, 7, 7)));
        refused("light in a cell of fuel 0", 0, x -> bit(x.light(8, 0)));
        refused("light as early", 0, x -> bit(x.light(0, 12)));
        refused("light later", 0, x -> bit(x.light(0, 13)));
        refused("not as late", 0, x -> bit(x.not(1, 45)));
        refused("not earlier", 0, x -> bit(x.not(1, 44)));
        refused("not as the fire begins", 0, x -> bit(x.not(0, 12)));
        refused("not behind that", 0, x -> bit(x.not(20, 401)));
        refused("safe twice", 0, x -> bit(x.safe(35)));
        refused("road twice", 0, x -> bit(x.road(4)));
        refused("exit twice", 0, x -> bit(x.exit(17)));
        refused("maybe twice", 0, x -> bit(x.maybe(6)));
        refused("maybe of fuel 0", 0, x -> bit(x.maybe(8)));
    }

    private static void refuseOrders() {
        refused("crew 2", NONE, x -> x.order(2, 34, 0));
        refused("crew -1", NONE, x -> x.order(-1, 34, 0));
        refused("fuel 0", NONE, x -> x.order(0, 8, 0));
        refused("above 5000", NONE, x -> x.order(0, 28, 4991));
        refused("no way out", -2, x -> x.order(0, 0, 0));
        refused("no way out of a cell that is cut", -2, x -> x.order(1, 22, 4000));
        refused("no way out at the end", -2, x -> x.order(0, 1, 400));
    }

    private static void refuseWhenFull() {
        due("worlds", state.make().count(2), 4);
        due("orders", state.make().count(5), 60);
        refused("a fifth world", NONE, x -> x.world());
        for (int w = 0; w < 4; w++) {
            int world = w;
            refused("a ninth wind", 0, x -> bit(x.wind(world, 5000, 0, 9)));
        }
        refused("a 41st drop", 0, x -> bit(x.drop(1, 0)));
        refused("a seventh crew", NONE, x -> x.crew(0));
        refused("a seventh village", NONE, x -> x.village(0, 1, 1));
        refused("a seventh for the plan", 0, x -> bit(x.maybe(35)));
        refused("a 61st order", NONE, x -> x.order(0, 35, 0));
        refused("a 61st order to another", NONE, x -> x.order(5, 34, 1000));
    }

    private static void refuseWhenEmpty() {
        refused("no crew", NONE, x -> x.order(0, 0, 0));
        refused("no world 1", 0, x -> bit(x.wind(1, 0, 0, 0)));
    }

    private static void questionsChangeNothing() {
        refused("all questions", 0, x -> {
            for (int a = -1; a < 7; a++) {
                for (int b = -1; b < 4; b++) {
                    x.burns(a, b);
                    x.burnt(a, b);
                    x.from(a, b);
                    x.out(a, b);
                    x.look(a, b);
                    x.way(a, b);
                    x.about(a, b);
                }
                x.last(a);
                x.plan(a);
                x.count(a);
            }
            return 0;
        });
        int[] far = {LEAST, -1, 36, 5001, MOST};
        refused("questions with wrong numbers", 0, x -> {
            int answers = 0;
            for (int n : far) {
                answers += x.burns(n, 0) + x.burns(0, n) + x.burnt(n, 0) + x.from(n, 0) + x.from(0, n)
                    + x.out(n, 0) + x.look(n, 0) + x.look(0, n) + x.way(n, 0) + x.way(0, n) + x.last(n)
                    + x.plan(n) + x.about(n, 0) + x.about(0, n) + x.count(n);
            }
            return answers + 15 * far.length;
        });
    }

    private static void objectsKnowNothingOfEachOther() {
        sentence("All memory is the fire's own.");
        String ordinaryAlone = Transcript.of(RefusedTest::ordinary);
        String newAlone = Transcript.of(FireLines::new);
        due("beside a full one", Transcript.of(() -> {
            FireLines x = ordinary();
            FireLines other = full();
            other.plan(6);
            other.last(0);
            other.burns(0, 5);
            return x;
        }), ordinaryAlone);
        due("a new one beside others", Transcript.of(() -> {
            FireLines other = ordinary();
            FireLines x = new FireLines();
            full().burns(0, 0);
            other.hills(3, 3);
            return x;
        }), newAlone);
    }
}
