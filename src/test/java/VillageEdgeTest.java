/** The edges that part 3 of the document's terms names: roads, villages, what is burnt, the plan. */
public final class VillageEdgeTest extends Sentences {
    public static void main(String[] args) {
        sixVillages();
        carsAndRates();
        byRoadsAlone();
        fewestSteps();
        leastRow();
        ownCellAndExitNeedNoRoad();
        longestWay();
        stepIsAMinute();
        lastCar();
        aheadOfTheFire();
        everyWorld();
        noneEverBurns();
        burntByThen();
        planNumbers();
        cellsToldForThePlan();
        setsOfAtMostK();
        cutAheadOfAll();
        burntBy5000();
        worstWorld();
        fewestCells();
        leastAsBits();
        end("VillageEdgeTest");
    }

    private static void sixVillages() {
        sentence("VILLAGES 0 to 5, each in a CELL");
        FireLines x = hills(3, 2);
        for (int c = 0; c < 6; c++) {
            x.exit(c);
        }
        for (int v = 0; v < 6; v++) {
            due("villages", x.count(4), v);
            due("none such yet", x.way(v, 0), NONE);
            due("no last minute yet", x.last(v), NONE);
            due("village", x.village(5 - v, 1, 1), v);
            due("its cell", x.way(v, 0), 5 - v);
            due("its last minute", x.last(v), 5000);
        }
        due("a seventh", x.village(0, 1, 1), NONE);
        due("villages", x.count(4), 6);
        due("none such", x.way(6, 0), NONE);
        due("the last one stands", x.way(5, 0), 0);
        FireLines y = hills(2, 2);
        y.exit(3);
        y.road(1);
        due("a village", y.village(0, 1, 1), 0);
        due("another in the same cell", y.village(0, 500, 50), 1);
        due("the same way", y.way(1, 1), 1);
    }

    private static void carsAndRates() {
        sentence("of CARS (1 to 500), so many of which leave in a MINUTE (1 to 50)");
        int[] noCars = {LEAST, -1, 0, 501, MOST};
        int[] noRate = {LEAST, -1, 0, 51, MOST};
        FireLines x = hills(2, 2);
        for (int cars : noCars) {
            due("cars " + cars, x.village(0, cars, 1), NONE);
        }
        for (int rate : noRate) {
            due("rate " + rate, x.village(0, 1, rate), NONE);
        }
        due("none is there", x.count(4), 0);
        due("1 and 1", x.village(0, 1, 1), 0);
        due("500 and 50", x.village(0, 500, 50), 1);
        due("1 and 50", x.village(0, 1, 50), 2);
        due("500 and 1", x.village(0, 500, 1), 3);
    }

    private static void byRoadsAlone() {
        sentence("from the VILLAGE's CELL by ROADS (up, down, left, right) to an EXIT");
        FireLines x = hills(3, 3);
        x.village(4, 1, 1);
        due("no exit", x.way(0, 0), NONE);
        int[] corners = {0, 2, 6, 8};
        for (int c : corners) {
            x.exit(c);
            due("no slant to " + c, x.way(0, 0), NONE);
        }
        int[] sides = {7, 5, 3, 1};
        int[] ends = {6, 2, 0, 0};
        for (int i = 0; i < 4; i++) {
            due("a road", x.road(sides[i]), true);
            due("by " + sides[i], x.way(0, 1), sides[i]);
            due("to " + ends[i], x.way(0, 2), ends[i]);
            due("three cells", x.way(0, 3), NONE);
        }
        FireLines y = hills(3, 2);
        y.village(2, 1, 1);
        y.village(3, 1, 1);
        y.exit(3);
        due("not round the edge", y.way(0, 0), NONE);
        y.road(1);
        y.road(0);
        due("by roads", y.way(0, 3), 3);
        FireLines z = hills(4, 2);
        z.village(0, 1, 1);
        z.exit(3);
        z.road(1);
        due("a gap", z.way(0, 0), NONE);
        z.road(2);
        due("no gap", z.way(0, 0), 0);
    }

    private static void fewestSteps() {
        sentence("in fewest steps");
        FireLines x = hills(4, 3);
        x.village(5, 1, 1);
        int[] roads = {1, 2, 3, 9, 10};
        for (int c : roads) {
            x.road(c);
        }
        x.exit(7);
        wayIs(x, 0, 5, 1, 2, 3, 7);
        x.exit(11);
        due("three steps to 11, though its row is not the least", x.way(0, 3), 11);
        wayIs(x, 0, 5, 9, 10, 11);
        x.exit(10);
        wayIs(x, 0, 5, 9, 10);
        x.exit(6);
        wayIs(x, 0, 5, 6);
        x.exit(5);
        wayIs(x, 0, 5);
    }

    private static void leastRow() {
        sentence("of like ones the least row of CELLS");
        FireLines x = hills(3, 3);
        x.village(4, 1, 1);
        int[] exits = {7, 5, 3, 1};
        for (int c : exits) {
            x.exit(c);
            wayIs(x, 0, 4, c);
        }
        // By the row, not by the exit: 4 goes ahead of 6 though exit 2 is lower than exit 8.
        FireLines y = hills(4, 4);
        y.village(5, 1, 1);
        y.exit(2);
        y.road(6);
        wayIs(y, 0, 5, 6, 2);
        y.exit(8);
        y.road(4);
        wayIs(y, 0, 5, 4, 8);
        // Alike at first: the later cells count.
        FireLines z = hills(4, 4);
        z.village(0, 1, 1);
        for (int c = 1; c < 15; c++) {
            z.road(c);
        }
        z.exit(15);
        wayIs(z, 0, 0, 1, 2, 3, 7, 11, 15);
    }

    private static void wayIs(FireLines x, int v, int... cells) {
        for (int i = 0; i < cells.length; i++) {
            due("cell " + i + " of the way", x.way(v, i), cells[i]);
        }
        due("behind the way", x.way(v, cells.length), NONE);
    }

    private static void ownCellAndExitNeedNoRoad() {
        sentence("(the VILLAGE's own and the EXIT need not be a ROAD)");
        FireLines x = hills(3, 2);
        x.village(0, 1, 1);
        x.exit(2);
        due("between them one must be", x.way(0, 0), NONE);
        x.road(1);
        wayIs(x, 0, 0, 1, 2);
        x.road(0);
        x.road(2);
        wayIs(x, 0, 0, 1, 2);
        x.exit(0);
        wayIs(x, 0, 0);
        // Another village's own cell is no road for this one.
        FireLines y = hills(3, 2);
        y.village(0, 1, 1);
        y.village(1, 1, 1);
        y.exit(2);
        due("through village 1", y.way(0, 0), NONE);
        due("village 1 itself", y.way(1, 1), 2);
    }

    private static void longestWay() {
        sentence("from the VILLAGE's CELL by ROADS (up, down, left, right) to an EXIT");
        // To and fro over 8 by 8: rows 0, 2, 4, 6 whole, and one cell of each row between.
        FireLines x = hills(8, 8);
        int[] row = new int[36];
        int length = 0;
        for (int r = 0; r < 8; r += 2) {
            for (int i = 0; i < 8; i++) {
                row[length++] = 8 * r + (r % 4 == 0 ? i : 7 - i);
            }
            row[length++] = 8 * (r + 1) + (r % 4 == 0 ? 7 : 0);
        }
        for (int c : row) {
            x.road(c);
        }
        x.exit(row[35]);
        x.village(0, 1, 1);
        wayIs(x, 0, row);
        x.light(row[35], 100);
        due("35 steps", x.last(0), 99 - 35);
        FireLines y = hills(8, 8);
        for (int c = 0; c < 64; c++) {
            y.road(c);
        }
        y.exit(63);
        y.village(0, 1, 1);
        wayIs(y, 0, 0, 1, 2, 3, 4, 5, 6, 7, 15, 23, 31, 39, 47, 55, 63);
    }

    private static void stepIsAMinute() {
        sentence("a step is a MINUTE");
        for (int i = 0; i < 8; i++) {
            FireLines x = lane(8, 2, i);
            for (int c = 1; c < 7; c++) {
                x.road(c);
            }
            x.exit(7);
            x.village(0, 1, 1);
            x.light(i, 100);
            due("cell " + i + " burns at 100", x.last(0), 99 - i);
            x.village(0, 7, 2);
            due("three minutes behind", x.last(1), 96 - i);
        }
    }

    private static int lastOf(int cars, int rate, int burns) {
        FireLines x = lane(2, 2, 0);
        x.exit(0);
        x.village(0, cars, rate);
        x.light(0, burns);
        return x.last(0);
    }

    private static void lastCar() {
        sentence("the latest at which the first CAR can leave so that in every WORLD the last CAR is in each CELL");
        int[][] behind = {{1, 1, 0}, {2, 1, 1}, {1, 50, 0}, {49, 50, 0}, {50, 50, 0}, {51, 50, 1},
            {100, 50, 1}, {101, 50, 2}, {500, 50, 9}, {500, 49, 10}, {500, 1, 499}, {20, 5, 3}, {21, 5, 4}};
        for (int[] each : behind) {
            due(each[0] + " cars, " + each[1] + " a minute", lastOf(each[0], each[1], 1000), 999 - each[2]);
        }
        due("just at 0", lastOf(500, 1, 500), 0);
        due("too late at 0", lastOf(500, 1, 499), NONE);
        due("one car at 0", lastOf(1, 1, 1), 0);
        due("it burns from 0 on", lastOf(1, 1, 0), NONE);
        due("it burns at 5000", lastOf(1, 1, 5000), 4999);
        due("500 cars ahead of 5000", lastOf(500, 1, 5000), 4500);
    }

    private static void aheadOfTheFire() {
        sentence("the last CAR is in each CELL of the WAY ahead of the MINUTE at which it burns there");
        FireLines x = lane(4, 2, 0, 1, 2, 3);
        x.village(0, 1, 1);
        x.road(1);
        x.road(2);
        x.exit(3);
        x.light(3, 100);
        due("3 at 100", x.last(0), 96);
        x.light(0, 97);
        due("0 at 97 is just as late", x.last(0), 96);
        x.light(0, 96);
        due("0 at 96", x.last(0), 95);
        x.light(2, 98);
        due("2 at 98 is just as late", x.last(0), 95);
        x.light(2, 97);
        due("2 at 97", x.last(0), 94);
        x.light(3, 1);
        due("3 at 1", x.last(0), NONE);
        FireLines y = lane(4, 2, 3);
        y.village(0, 1, 1);
        y.road(1);
        y.road(2);
        y.exit(3);
        y.light(3, 4);
        due("3 at 4: there at 3", y.last(0), 0);
        y.light(3, 3);
        due("3 at 3", y.last(0), NONE);
    }

    private static void everyWorld() {
        sentence("so that in every WORLD");
        for (int w = 0; w < 4; w++) {
            FireLines x = lane(2, 2, 0, 1);
            x.village(1, 1, 1);
            x.exit(1);
            x.light(0, 100);
            for (int i = 1; i < 4; i++) {
                x.world();
            }
            due("calm in all", x.last(0), 119);
            x.wind(w, 0, 2, 9);
            due("early in world " + w, x.last(0), 103);
        }
        // It burns in one world alone.
        FireLines y = lane(2, 2, 0, 1);
        y.village(1, 1, 1);
        y.exit(1);
        y.light(0, 4990);
        y.world();
        due("in no world", y.last(0), 5000);
        y.wind(1, 0, 2, 9);
        due("in world 1", y.last(0), 4993);
    }

    private static void noneEverBurns() {
        sentence("5000 if none of them ever does");
        FireLines x = lane(3, 2, 3);
        x.village(0, 500, 1);
        x.road(1);
        x.exit(2);
        due("nothing burns", x.last(0), 5000);
        x.light(3, 0);
        due("none of the way burns", x.last(0), 5000);
        x.cell(2, 1, 0, 0);
        x.light(2, 5000);
        due("one burns at 5000", x.last(0), 4999 - 499 - 2);
    }

    private static void burntByThen() {
        sentence("BURNT in a WORLD by a MINUTE: CELLS that burn by then.");
        FireLines x = lane(3, 2, 0, 1, 2);
        due("nothing by 5000", x.burnt(0, 5000), 0);
        x.light(0, 1);
        x.not(2, 4999);
        int[] minutes = {0, 1, 2, 20, 21, 22, 4999, 5000};
        int[] want = {0, 1, 1, 1, 2, 2, 2, 3};
        for (int i = 0; i < minutes.length; i++) {
            due("by " + minutes[i], x.burnt(0, minutes[i]), want[i]);
        }
        FireLines y = hills(8, 8);
        y.light(0, 0);
        due("at 0", y.burnt(0, 0), 1);
        due("all of 64", y.burnt(0, 5000), 64);
        y.world();
        y.wind(1, 0, 3, 9);
        // 280 by 64 on the slant, 200 by 46 beside it.
        due("in the world asked", y.burnt(1, 5), 4);
        due("not in the other", y.burnt(0, 5), 1);
    }

    private static void planNumbers() {
        sentence("THE PLAN for k (0 to 6)");
        FireLines x = hills(3, 3);
        x.light(4, 0);
        int[] no = {LEAST, -1, 7, 8, MOST};
        for (int told = 0; told <= 6; told++) {
            for (int k : no) {
                due("plan(" + k + ") of " + told, x.plan(k), NONE);
            }
            for (int k = 0; k <= 6; k++) {
                due("plan(" + k + ") of " + told, x.plan(k), (1 << Math.min(k, told)) - 1);
            }
            due("told", x.maybe(told < 4 ? told : told + 1), told < 6);
        }
    }

    private static void cellsToldForThePlan() {
        sentence("of the CELLS told (6 at most)");
        FireLines x = hills(3, 3);
        x.light(4, 0);
        int[] cells = {8, 7, 6, 5, 3, 2};
        for (int i = 0; i < 6; i++) {
            due("told before", x.count(6), i);
            due("cell " + cells[i], x.maybe(cells[i]), true);
        }
        due("a seventh", x.maybe(0), false);
        due("six", x.count(6), 6);
        due("the six alone", x.plan(6), 63);
        due("none is cut by it", x.about(8, 3), NONE);
    }

    private static void setsOfAtMostK() {
        sentence("of all sets of at most k of these");
        // In a lane from 0 one cut does it: more are not taken, nor the cells behind it.
        FireLines x = lane(8, 2, 0, 1, 2, 3, 4, 5, 6, 7);
        x.light(0, 0);
        int[] cells = {7, 6, 5, 4, 3, 2};
        for (int c : cells) {
            x.maybe(c);
        }
        due("none", x.plan(0), 0);
        for (int k = 1; k <= 6; k++) {
            due("one of " + k, x.plan(k), 32);
        }
        // Two lanes beside: two are needed, one alone saves only itself.
        FireLines y = hills(8, 2);
        y.light(0, 0);
        y.light(8, 0);
        y.maybe(2);
        y.maybe(12);
        y.maybe(4);
        y.maybe(10);
        due("one", y.plan(1), 1);
        due("two", y.plan(2), 9);
        due("three", y.plan(3), 9);
    }

    private static void cutAheadOfAll() {
        sentence("CUT ahead of all");
        FireLines x = lane(2, 2, 0, 1);
        x.cell(1, 1, 9, 0);
        x.light(0, 0);
        x.wind(0, 0, 2, 9);
        due("as early as can be", x.burns(0, 1), 2);
        x.maybe(1);
        due("cut ahead of that", x.plan(1), 1);
        x.not(1, 10);
        due("and of a sighting", x.plan(1), 1);
        x.light(1, 0);
        due("a cell that is lit burns all the same", x.plan(1), 0);
        // What is cut by orders stays cut in each of the sets.
        FireLines y = lane(3, 2, 0, 1, 2);
        y.safe(5);
        y.crew(2);
        y.maybe(2);
        y.maybe(1);
        y.light(0, 0);
        due("the first cell is the better", y.plan(1), 2);
        due("cut by order", y.order(0, 1, 0), 14);
        due("then none is needed", y.plan(1), 0);
        due("cut at 14 as before", y.about(1, 3), 14);
        y.cell(1, 1, 0, 0);
        due("10: ahead of the cut", y.burns(0, 1), 10);
        due("cut ahead of all it helps", y.plan(1), 2);
        due("cut at 14 still", y.about(1, 3), 14);
        due("and burns", y.burns(0, 1), 10);
    }

    private static void burntBy5000() {
        sentence("fewest CELLS are BURNT by 5000");
        int[] lit = {4979, 4980, 4981, 5000};
        int[] want = {1, 1, 0, 0};
        for (int i = 0; i < lit.length; i++) {
            FireLines x = lane(2, 2, 0, 1);
            x.maybe(1);
            x.light(0, lit[i]);
            due("lit at " + lit[i], x.plan(1), want[i]);
        }
    }

    /** A lane from 0 to 7 that begins to burn in 4, 40 minutes ahead of the end; the wind is to the right, or left. */
    private static FireLines twoWinds() {
        FireLines x = lane(8, 2, 0, 1, 2, 3, 4, 5, 6, 7);
        x.light(4, 4960);
        x.world();
        x.wind(0, 0, 2, 2);
        x.wind(1, 0, 6, 2);
        return x;
    }

    private static void worstWorld() {
        sentence("in the WORLD that is worst");
        FireLines x = twoWinds();
        due("world 0", x.burnt(0, 5000), 5);
        due("world 1", x.burnt(1, 5000), 6);
        x.maybe(5);
        x.maybe(3);
        // 5 leaves 2 and 5 cells, 3 leaves 4 and 2.
        due("3 is the better in the worst", x.plan(1), 2);
        FireLines y = twoWinds();
        y.maybe(1);
        y.maybe(5);
        // 1 leaves 5 and 4 cells, 5 leaves 2 and 5: alike, though not in all.
        due("not by the sum of the worlds", y.plan(1), 1);
        for (int w = 0; w < 4; w++) {
            FireLines z = lane(2, 2, 0, 1);
            z.maybe(1);
            z.light(0, 4990);
            for (int i = 1; i < 4; i++) {
                z.world();
            }
            due("in no world", z.plan(1), 0);
            z.wind(w, 0, 2, 9);
            due("in world " + w + " alone", z.plan(1), 1);
        }
    }

    private static void fewestCells() {
        sentence("of like ones with fewest CELLS");
        // 7 burns when it is told in any case, but cut it goes on too late: as good as 3 and 13.
        FireLines x = lane(5, 3, 5, 6, 7, 3, 13);
        x.light(5, 0);
        x.light(7, 5000);
        x.maybe(3);
        x.maybe(13);
        x.maybe(7);
        due("all five burn", x.burnt(0, 5000), 5);
        due("7 alone, though its bit is higher", x.plan(2), 4);
        due("of three too", x.plan(3), 4);
        due("of one", x.plan(1), 4);
        FireLines y = lane(2, 2, 0);
        y.light(0, 0);
        y.maybe(0);
        due("none, where a cut helps nothing", y.plan(6), 0);
    }

    private static void leastAsBits() {
        sentence("of like ones the least, as bits");
        FireLines x = hills(3, 3);
        x.light(4, 0);
        int[] cells = {8, 0, 7, 1, 6, 2};
        for (int c : cells) {
            x.maybe(c);
        }
        int[] want = {0, 1, 3, 7, 15, 31, 63};
        for (int k = 0; k <= 6; k++) {
            due("of " + k, x.plan(k), want[k]);
        }
        x.cell(8, 0, 0, 0);
        int[] without = {0, 2, 6, 14, 30, 62, 62};
        for (int k = 0; k <= 6; k++) {
            due("8 can't burn, of " + k, x.plan(k), without[k]);
        }
    }
}
