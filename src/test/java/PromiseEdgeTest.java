/** The edges that the promises themselves name: each reason for which a call is refused, each NONE. */
public final class PromiseEdgeTest extends Sentences {
    /** Numbers that are no cell of hills of six cells, some of which would be one behind a wrap-around. */
    private static final int[] NO_CELL = {LEAST, LEAST + 6, -6, -1, 6, 7, 63, 64, 1 << 28, 1 << 29, 1 << 30, MOST};
    private static final int[] NO_MINUTE = {LEAST, LEAST + 1, -1, 5001, 65536, MOST};
    private static final int[] NO_WORLD = {LEAST, -1, 1, 2, 3, 4, 1 << 30, MOST};

    public static void main(String[] args) {
        newObject();
        hillsAnew();
        cellRefused();
        worldWithWindsAsTheyAre();
        windRefused();
        lightRefused();
        notRefused();
        dropRefused();
        burnsNone();
        burntNone();
        fromNone();
        fromLowest();
        safeRefused();
        crewRefused();
        outNone();
        orderAnswers();
        orderNone();
        lookNone();
        roadRefused();
        exitRefused();
        villageRefused();
        wayNone();
        lastNone();
        maybeRefused();
        planNone();
        aboutNone();
        countNone();
        constants();
        end("PromiseEdgeTest");
    }

    private static void newObject() {
        sentence("6 by 6 CELLS; one WORLD; nothing burns.");
        FireLines x = new FireLines();
        due("W", x.count(0), 6);
        due("H", x.count(1), 6);
        due("cell 35", x.about(35, 0), 2);
        due("cell 36", x.about(36, 0), NONE);
        due("worlds", x.count(2), 1);
        due("world 1", x.burns(1, 0), NONE);
        for (int c = 0; c < 36; c++) {
            due("burns " + c, x.burns(0, c), NONE);
        }
        due("burnt", x.burnt(0, 5000), 0);
        due("burn in no world", x.count(7), 36);
        due("as hills(6, 6)", Transcript.of(FireLines::new), Transcript.of(() -> hills(6, 6)));
    }

    private static FireLines muchTold() {
        FireLines x = new FireLines();
        for (int c = 0; c < 36; c++) {
            x.cell(c, 4, c % 10, 99);
            x.road(c);
            x.safe(c);
            x.exit(c);
        }
        for (int i = 0; i < 8; i++) {
            x.wind(0, i * 600, i, 9);
            x.world();
            x.crew(i);
            x.village(i, 500, 1);
            x.maybe(i + 4);
            x.not(i, 4000);
        }
        for (int i = 0; i < 60; i++) {
            x.order(i % 6, i % 36, 0);
            x.drop(i % 36, i);
        }
        x.light(0, 0);
        x.light(30, 3000);
        x.burns(3, 1);
        x.plan(6);
        return x;
    }

    private static void hillsAnew() {
        sentence("HILLS anew (all is as at first): true; false: no such numbers.");
        int[][] sizes = {{6, 6}, {2, 2}, {8, 8}, {2, 8}, {8, 2}};
        for (int[] size : sizes) {
            String asAtFirst = Transcript.of(() -> hills(size[0], size[1]));
            due("all anew in " + size[0] + " by " + size[1], Transcript.of(() -> {
                FireLines x = muchTold();
                due("hills", x.hills(size[0], size[1]), true);
                return x;
            }), asAtFirst);
        }
        FireLines x = muchTold();
        int orders = x.count(5);
        int[] no = {LEAST, -8, -2, 0, 1, 9, 16, 1 << 31, (1 << 30) + 2, MOST};
        for (int size : no) {
            due("w " + size, x.hills(size, 6), false);
            due("h " + size, x.hills(6, size), false);
            due("both " + size, x.hills(size, size), false);
        }
        due("all stands", x.count(5), orders);
    }

    private static void cellRefused() {
        sentence("A CELL: true; false: no such ones.");
        FireLines x = hills(3, 2);
        for (int c : NO_CELL) {
            due("cell " + c, x.cell(c, 1, 1, 1), false);
        }
        for (int c = 0; c < 6; c++) {
            due("cell " + c, x.cell(c, c % 5, 9 - c, 99 - c), true);
        }
        for (int c = 0; c < 6; c++) {
            due("fuel", x.about(c, 0), c % 5);
            due("height", x.about(c, 1), 9 - c);
            due("wet", x.about(c, 2), 99 - c);
        }
        due("again, as it is", x.cell(5, 0, 4, 94), true);
        due("fuel -1", x.cell(0, -1, 0, 0), false);
        due("fuel 5", x.cell(0, 5, 0, 0), false);
        due("height -1", x.cell(0, 0, -1, 0), false);
        due("height 10", x.cell(0, 0, 10, 0), false);
        due("wet -1", x.cell(0, 0, 0, -1), false);
        due("wet 100", x.cell(0, 0, 0, 100), false);
    }

    private static void worldWithWindsAsTheyAre() {
        sentence("A WORLD more, with the WINDS of WORLD 0 as they are: its number; NONE: 4 are there.");
        FireLines x = lane(2, 2, 0, 1);
        x.cell(1, 1, 0, 0);
        x.light(0, 0);
        due("world 1 of no winds", x.world(), 1);
        x.wind(0, 1, 2, 9);
        due("0 changed", x.burns(0, 1), 3);
        due("1 did not", x.burns(1, 1), 10);
        due("world 2 of one wind", x.world(), 2);
        due("2 is as 0 is", x.burns(2, 1), 3);
        due("its latest is 1", x.wind(2, 1, 0, 0), false);
        x.wind(1, 0, 6, 9);
        x.wind(2, 2, 6, 9);
        x.wind(0, 2, 2, 0);
        due("0", x.burns(0, 1), 5);
        due("1 by its own", x.burns(1, 1), 100);
        due("2 by its own", x.burns(2, 1), 28);
        due("world 3 of two winds", x.world(), 3);
        due("3 is as 0 is", x.burns(3, 1), 5);
        due("a fifth", x.world(), NONE);
        due("a fifth again", x.world(), NONE);
        due("four", x.count(2), 4);
        due("0 stands", x.burns(0, 1), 5);
        due("3 stands", x.burns(3, 1), 5);
        due("hills anew", x.hills(2, 2), true);
        due("one again", x.count(2), 1);
        due("the next is 1", x.world(), 1);
    }

    private static void windRefused() {
        sentence("The WIND of a WORLD from a MINUTE on: true; false: no such ones, not behind its latest one, 8 are there.");
        FireLines x = hills(3, 2);
        for (int w : NO_WORLD) {
            due("world " + w, x.wind(w, 0, 0, 0), false);
        }
        for (int minute : NO_MINUTE) {
            due("minute " + minute, x.wind(0, minute, 0, 0), false);
        }
        due("at 100", x.wind(0, 100, 0, 0), true);
        due("at 0", x.wind(0, 0, 0, 0), false);
        due("at 99", x.wind(0, 99, 0, 0), false);
        due("at 100 again", x.wind(0, 100, 1, 1), false);
        due("at 101", x.wind(0, 101, 0, 0), true);
        for (int i = 0; i < 5; i++) {
            due("more", x.wind(0, 200 + i, 0, 0), true);
        }
        due("the eighth", x.wind(0, 5000, 0, 0), true);
        due("none is behind 5000", x.wind(0, 5000, 0, 0), false);
        FireLines y = hills(3, 2);
        for (int i = 0; i < 8; i++) {
            due("wind " + i, y.wind(0, i, 0, 0), true);
        }
        due("8 are there", y.wind(0, 8, 0, 0), false);
        y.world();
        due("8 are there too", y.wind(1, 8, 0, 0), false);
    }

    private static void lightRefused() {
        sentence("THE FIRE begins in a CELL at a MINUTE: true; false: no such ones, FUEL 0, it was told as early.");
        FireLines x = hills(3, 2);
        for (int c : NO_CELL) {
            due("cell " + c, x.light(c, 0), false);
        }
        for (int minute : NO_MINUTE) {
            due("minute " + minute, x.light(0, minute), false);
        }
        x.cell(0, 0, 0, 0);
        due("fuel 0", x.light(0, 0), false);
        due("not told", x.about(0, 8), NONE);
        x.cell(0, 1, 0, 0);
        due("fuel 1 at 5000", x.light(0, 5000), true);
        due("as early", x.light(0, 5000), false);
        due("a minute earlier", x.light(0, 4999), true);
        due("a minute later", x.light(0, 5000), false);
        x.cell(0, 0, 0, 0);
        due("fuel 0 again", x.light(0, 10), false);
        due("told before", x.about(0, 8), 4999);
        due("in a cell that burns by going already", lightWhereItBurns(), true);
    }

    private static boolean lightWhereItBurns() {
        FireLines x = hills(3, 2);
        x.light(0, 0);
        return x.light(1, 30) && x.burns(0, 1) == 20 && x.about(1, 8) == 30 && x.from(0, 1) == 0;
    }

    private static void notRefused() {
        sentence("A CELL was seen NOT to burn at a MINUTE: true; false: no such ones, told for as late a one; "
            + "THE FIRE was told to begin there at that MINUTE or ahead.");
        FireLines x = hills(3, 2);
        for (int c : NO_CELL) {
            due("cell " + c, x.not(c, 0), false);
        }
        for (int minute : NO_MINUTE) {
            due("minute " + minute, x.not(0, minute), false);
        }
        due("at 0", x.not(0, 0), true);
        due("at 0 again", x.not(0, 0), false);
        due("at 1", x.not(0, 1), true);
        due("at 0 behind 1", x.not(0, 0), false);
        due("at 5000", x.not(0, 5000), true);
        due("at 4999 behind 5000", x.not(0, 4999), false);
        x.light(1, 100);
        due("behind the beginning", x.not(1, 101), false);
        due("at the beginning", x.not(1, 100), false);
        due("none is told", x.about(1, 9), NONE);
        due("a minute ahead of it", x.not(1, 99), true);
        due("told", x.about(1, 9), 99);
        x.light(2, 0);
        due("where it began at 0", x.not(2, 0), false);
        x.cell(4, 0, 0, 0);
        due("in a cell of fuel 0", x.not(4, 7), true);
        due("a beginning a minute ahead of a sighting", x.light(1, 98), true);
        due("it stands", x.burns(0, 1), 98);
    }

    private static void dropRefused() {
        sentence("A DROP over a CELL at a MINUTE: true; false: no such ones, 40 were.");
        FireLines x = hills(3, 2);
        for (int c : NO_CELL) {
            due("cell " + c, x.drop(c, 0), false);
        }
        for (int minute : NO_MINUTE) {
            due("minute " + minute, x.drop(0, minute), false);
        }
        for (int i = 0; i < 40; i++) {
            due("drop " + i, x.drop(i % 6, 5000 - i), true);
        }
        for (int c = 0; c < 6; c++) {
            due("40 were", x.drop(c, 0), false);
            due("over " + c, x.about(c, 4), c < 4 ? 7 : 6);
        }
        FireLines y = hills(3, 2);
        y.cell(0, 0, 0, 0);
        for (int i = 0; i < 40; i++) {
            due("at the same minute, over fuel 0", y.drop(0, 7), true);
        }
        due("all over one", y.about(0, 4), 40);
        due("40 were", y.drop(1, 7), false);
    }

    private static void burnsNone() {
        sentence("From which MINUTE on a CELL burns in a WORLD; NONE: never, no such ones.");
        FireLines x = hills(3, 2);
        due("never", x.burns(0, 0), NONE);
        x.light(0, 0);
        due("from 0 on", x.burns(0, 0), 0);
        for (int w : NO_WORLD) {
            due("world " + w, x.burns(w, 0), NONE);
        }
        for (int c : NO_CELL) {
            due("cell " + c, x.burns(0, c), NONE);
        }
        x.hills(2, 2);
        due("cell 4 is no more", x.burns(0, 4), NONE);
        due("nor does 0 burn", x.burns(0, 0), NONE);
    }

    private static void burntNone() {
        sentence("BURNT in a WORLD by a MINUTE: how many CELLS; NONE: no such ones.");
        FireLines x = hills(3, 2);
        x.light(0, 0);
        for (int w : NO_WORLD) {
            due("world " + w, x.burnt(w, 0), NONE);
        }
        for (int minute : NO_MINUTE) {
            due("minute " + minute, x.burnt(0, minute), NONE);
        }
        due("by 0", x.burnt(0, 0), 1);
        due("by 5000", x.burnt(0, 5000), 6);
        x.hills(8, 8);
        due("none anew", x.burnt(0, 5000), 0);
        x.light(63, 5000);
        due("one at 5000", x.burnt(0, 5000), 1);
        due("none at 4999", x.burnt(0, 4999), 0);
    }

    private static void fromNone() {
        sentence("NONE: it began there, it never burns, no such ones.");
        FireLines x = lane(3, 2, 0, 1, 2);
        x.light(0, 0);
        due("it began there", x.from(0, 0), NONE);
        due("it never burns", x.from(0, 3), NONE);
        due("from 0", x.from(0, 1), 0);
        due("from 1", x.from(0, 2), 1);
        for (int w : NO_WORLD) {
            due("world " + w, x.from(w, 1), NONE);
        }
        for (int c : NO_CELL) {
            due("cell " + c, x.from(0, c), NONE);
        }
        x.light(1, 21);
        due("told to begin a minute later", x.from(0, 1), 0);
        x.light(1, 20);
        due("told to begin just then", x.from(0, 1), NONE);
        x.light(1, 19);
        due("told to begin a minute earlier", x.from(0, 1), NONE);
        due("2 from 1 still", x.from(0, 2), 1);
    }

    private static void fromLowest() {
        sentence("(that which makes it burn; of like ones the lowest)");
        // Four cells beside 4, alike but for those that begin later.
        int[][] lit = {{1, 3, 5, 7}, {7, 5, 3, 1}, {3, 5, 7}, {7, 5}, {7}};
        int[] want = {1, 1, 3, 5, 7};
        for (int i = 0; i < lit.length; i++) {
            FireLines x = lane(3, 3, 1, 3, 4, 5, 7);
            for (int c : lit[i]) {
                x.light(c, 10);
            }
            due("of " + lit[i].length, x.from(0, 4), want[i]);
        }
        FireLines y = lane(3, 3, 1, 4, 7);
        y.light(7, 10);
        y.light(1, 11);
        due("the earlier, though higher", y.from(0, 4), 7);
        // 8 on the slant is there at 28, when 1 is, which begins eight minutes later.
        FireLines z = lane(3, 3, 1, 4, 8);
        z.light(8, 0);
        z.light(1, 8);
        due("alike at the end, not at the beginning", z.from(0, 4), 1);
        FireLines s = lane(3, 3, 1, 4, 7);
        s.light(7, 0);
        s.light(1, 5);
        s.not(4, 24);
        due("both done by the minute behind a sighting", s.burns(0, 4), 25);
        due("the lowest of both", s.from(0, 4), 1);
        s.world();
        s.wind(1, 0, 0, 1);
        due("in world 1 only 7 is done by then", s.from(1, 4), 7);
    }

    private static void safeRefused() {
        sentence("A SAFE CELL: true; false: no such one, it is.");
        FireLines x = hills(3, 2);
        for (int c : NO_CELL) {
            due("cell " + c, x.safe(c), false);
        }
        for (int c = 0; c < 6; c++) {
            due("not yet", x.about(c, 5), 0);
            due("safe", x.safe(c), true);
            due("it is", x.safe(c), false);
            due("it is", x.about(c, 5), 1);
        }
    }

    private static void crewRefused() {
        sentence("A CREW in a CELL: its number; NONE: no such CELL, 6 are there.");
        FireLines x = hills(3, 2);
        for (int c : NO_CELL) {
            due("cell " + c, x.crew(c), NONE);
        }
        for (int k = 0; k < 6; k++) {
            due("all in one cell", x.crew(5), k);
        }
        for (int c = 0; c < 6; c++) {
            due("6 are there", x.crew(c), NONE);
        }
        x.hills(3, 2);
        due("hills anew", x.crew(0), 0);
    }

    private static void outNone() {
        sentence("Whether there is a WAY OUT from a CELL at a MINUTE: 1, 0; NONE: no such ones.");
        FireLines x = hills(3, 2);
        due("no safe cell", x.out(0, 0), 0);
        x.safe(0);
        due("at 0", x.out(0, 0), 1);
        due("at 5000", x.out(5, 5000), 1);
        for (int c : NO_CELL) {
            due("cell " + c, x.out(c, 0), NONE);
        }
        for (int minute : NO_MINUTE) {
            due("minute " + minute, x.out(0, minute), NONE);
        }
    }

    private static void orderAnswers() {
        sentence("AN ORDER to CREW k, not ahead of a MINUTE: when the CELL is CUT; -2: no WAY OUT");
        FireLines x = hills(3, 2);
        x.safe(2);
        x.crew(2);
        x.light(0, 0);
        due("no way out", x.order(0, 0, 0), -2);
        due("no way out of 1 cut at 21", x.order(0, 1, 7), -2);
        due("given", x.order(0, 1, 6), 20);
        due("cut", x.about(1, 3), 20);
        due("there", x.look(0, 0), 1);
        due("free", x.look(0, 1), 20);
        due("one", x.look(0, 2), 1);
    }

    private static void orderNone() {
        sentence("NONE: no such ones, FUEL 0, above 5000, 60 were given.");
        FireLines x = hills(3, 2);
        x.safe(0);
        x.crew(0);
        x.crew(0);
        int[] noCrew = {LEAST, -1, 2, 5, 6, 1 << 30, MOST};
        for (int k : noCrew) {
            due("crew " + k, x.order(k, 0, 0), NONE);
        }
        for (int c : NO_CELL) {
            due("cell " + c, x.order(0, c, 0), NONE);
        }
        for (int minute : NO_MINUTE) {
            due("minute " + minute, x.order(0, 0, minute), NONE);
        }
        x.cell(1, 0, 0, 0);
        due("fuel 0", x.order(0, 1, 0), NONE);
        due("cut at 5001", x.order(0, 0, 4991), NONE);
        due("cut at 5001, three steps off", x.order(0, 5, 4979), NONE);
        due("leaves at 5000", x.order(0, 0, 5000), NONE);
        due("cut at 5000", x.order(0, 0, 4990), 5000);
        due("free at 5000", x.look(0, 1), 5000);
        due("nothing more can be cut by it", x.order(0, 0, 0), NONE);
        due("cut at 5000, three steps off", x.order(1, 5, 4978), 5000);
        due("two", x.count(5), 2);
        // Refused as NONE, though there is no way out either.
        x.light(2, 0);
        due("above 5000 and no way out", x.order(1, 2, 0), NONE);
    }

    private static void lookNone() {
        sentence("2 ORDERS given to it. NONE for others.");
        FireLines x = hills(3, 2);
        int[] others = {LEAST, -1, 3, 4, MOST};
        for (int what = -1; what < 4; what++) {
            due("no crew", x.look(0, what), NONE);
        }
        x.safe(0);
        x.crew(4);
        x.order(0, 3, 100);
        int[] want = {3, 114, 1};
        for (int what = 0; what < 3; what++) {
            due("what " + what, x.look(0, what), want[what]);
            int[] noCrew = {LEAST, -1, 1, 6, MOST};
            for (int k : noCrew) {
                due("crew " + k, x.look(k, what), NONE);
            }
        }
        for (int what : others) {
            due("what " + what, x.look(0, what), NONE);
        }
    }

    private static void roadRefused() {
        sentence("A CELL is a ROAD: true; false: no such one, it is.");
        FireLines x = hills(3, 2);
        for (int c : NO_CELL) {
            due("cell " + c, x.road(c), false);
        }
        for (int c = 0; c < 6; c++) {
            due("not yet", x.about(c, 6), 0);
            due("road", x.road(c), true);
            due("it is", x.road(c), false);
            due("it is", x.about(c, 6), 1);
            due("no exit", x.about(c, 7), 0);
        }
    }

    private static void exitRefused() {
        sentence("A CELL is an EXIT: true; false: no such one, it is.");
        FireLines x = hills(3, 2);
        for (int c : NO_CELL) {
            due("cell " + c, x.exit(c), false);
        }
        for (int c = 0; c < 6; c++) {
            due("not yet", x.about(c, 7), 0);
            due("exit", x.exit(c), true);
            due("it is", x.exit(c), false);
            due("it is", x.about(c, 7), 1);
            due("no road", x.about(c, 6), 0);
            due("a road too", x.road(c), true);
        }
    }

    private static void villageRefused() {
        sentence("A VILLAGE: its number; NONE: no such ones, 6 are there.");
        FireLines x = hills(3, 2);
        for (int c : NO_CELL) {
            due("cell " + c, x.village(c, 1, 1), NONE);
        }
        due("no cars", x.village(0, 0, 1), NONE);
        due("501 cars", x.village(0, 501, 1), NONE);
        due("none in a minute", x.village(0, 1, 0), NONE);
        due("51 in a minute", x.village(0, 1, 51), NONE);
        for (int v = 0; v < 6; v++) {
            due("all in one cell", x.village(5, 500, 50), v);
        }
        for (int c = 0; c < 6; c++) {
            due("6 are there", x.village(c, 1, 1), NONE);
        }
        x.hills(3, 2);
        due("hills anew", x.village(0, 1, 1), 0);
    }

    private static void wayNone() {
        sentence("CELL i of VILLAGE v's WAY (its own first); NONE: there is none such, no WAY.");
        FireLines x = hills(3, 2);
        x.exit(2);
        x.road(1);
        due("no village", x.way(0, 0), NONE);
        x.village(0, 1, 1);
        int[] noVillage = {LEAST, -1, 1, 5, 6, MOST};
        for (int v : noVillage) {
            due("village " + v, x.way(v, 0), NONE);
        }
        int[] noCell = {LEAST, -1, 3, 4, 64, 65, 1 << 30, MOST};
        for (int i : noCell) {
            due("cell " + i + " of it", x.way(0, i), NONE);
        }
        due("its own first", x.way(0, 0), 0);
        due("1", x.way(0, 1), 1);
        due("the exit", x.way(0, 2), 2);
        x.village(5, 1, 1);
        x.village(3, 1, 1);
        due("another has its own", x.way(1, 1), 2);
        due("no way", x.way(2, 0), NONE);
        due("no way for i below", x.way(2, -1), NONE);
    }

    private static void lastNone() {
        sentence("THE LAST MINUTE of VILLAGE v; NONE: it is too late at 0, no WAY, no such one.");
        FireLines x = hills(3, 2);
        due("no village", x.last(0), NONE);
        x.village(0, 3, 1);
        due("no way", x.last(0), NONE);
        x.exit(1);
        due("a way", x.last(0), 5000);
        int[] noVillage = {LEAST, -1, 1, 5, 6, MOST};
        for (int v : noVillage) {
            due("village " + v, x.last(v), NONE);
        }
        x.light(1, 4);
        due("the last car is there at 3", x.last(0), 0);
        x.light(1, 3);
        due("too late at 0", x.last(0), NONE);
        x.village(2, 2, 1);
        due("another is not", x.last(1), 0);
    }

    private static void maybeRefused() {
        sentence("A CELL for THE PLAN: true; false: no such one, FUEL 0, it is told, 6 are.");
        FireLines x = hills(3, 3);
        int[] noCell = {LEAST, -1, 9, 64, MOST};
        for (int c : noCell) {
            due("cell " + c, x.maybe(c), false);
        }
        x.cell(0, 0, 0, 0);
        due("fuel 0", x.maybe(0), false);
        x.cell(0, 1, 0, 0);
        due("fuel 1", x.maybe(0), true);
        due("it is told", x.maybe(0), false);
        for (int c = 1; c < 6; c++) {
            due("told", x.maybe(c), true);
            for (int d = 0; d <= c; d++) {
                due("told already", x.maybe(d), false);
            }
        }
        due("6 are", x.maybe(6), false);
        due("6", x.count(6), 6);
        x.hills(3, 3);
        due("hills anew", x.maybe(6), true);
        due("1", x.count(6), 1);
    }

    private static void planNone() {
        sentence("the set, as bits by the order in which CELLS were told; NONE: no such k.");
        FireLines x = hills(3, 3);
        int[] no = {LEAST, -1, 7, 32, MOST};
        for (int k : no) {
            due("plan(" + k + ")", x.plan(k), NONE);
        }
        due("nothing is told", x.plan(6), 0);
        x.light(4, 0);
        due("nothing is told still", x.plan(6), 0);
        x.maybe(4);
        due("4 is lit", x.plan(6), 0);
        x.maybe(8);
        due("the second told", x.plan(1), 2);
        x.maybe(0);
        due("the second and the third", x.plan(2), 6);
    }

    private static void aboutNone() {
        sentence("9 the latest MINUTE at which it was told NOT to burn (NONE). NONE for others.");
        FireLines x = hills(3, 2);
        int[] atFirst = {2, 0, 0, NONE, 0, 0, 0, 0, NONE, NONE};
        for (int what = 0; what < 10; what++) {
            due("at first " + what, x.about(5, what), atFirst[what]);
            for (int c : NO_CELL) {
                due("cell " + c, x.about(c, what), NONE);
            }
        }
        int[] others = {LEAST, -1, 10, 11, MOST};
        for (int what : others) {
            due("what " + what, x.about(5, what), NONE);
        }
        x.not(5, 0);
        due("not at 0", x.about(5, 9), 0);
        x.light(4, 0);
        due("begins at 0", x.about(4, 8), 0);
        due("5 burns by going, it was not told", x.about(5, 8), NONE);
        due("it burns", x.burns(0, 5), 20);
    }

    private static void countNone() {
        sentence("7 CELLS that burn in no WORLD. NONE for others.");
        FireLines x = hills(2, 8);
        int[] want = {2, 8, 1, 0, 0, 0, 0, 16};
        for (int what = 0; what < 8; what++) {
            due("count " + what, x.count(what), want[what]);
        }
        int[] others = {LEAST, -1, 8, 9, MOST};
        for (int what : others) {
            due("count " + what, x.count(what), NONE);
        }
        for (int w = 0; w < 4; w++) {
            FireLines y = lane(2, 2, 0, 1);
            y.light(0, 4990);
            for (int i = 1; i < 4; i++) {
                y.world();
            }
            due("1 burns in no world", y.count(7), 3);
            y.wind(w, 0, 2, 9);
            due("1 burns in world " + w, y.count(7), 2);
        }
        FireLines z = hills(8, 8);
        due("all", z.count(7), 64);
        z.light(0, 0);
        due("none", z.count(7), 0);
    }

    private static void constants() {
        sentence("`NONE = -1`: There is none.");
        due("NONE", FireLines.NONE, -1);
    }
}
