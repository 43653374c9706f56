/** The edges that part 2 of the document's terms names: crews, ways out, orders. */
public final class CrewEdgeTest extends Sentences {
    public static void main(String[] args) {
        sixCrews();
        walks();
        firstCellAheadOfTheFire();
        eachCellAheadOfTheFire();
        lastCellAheadOfTheFire();
        cellsThatNeverBurn();
        noSafeCell();
        walkInEachWorld();
        beginsWhenFree();
        stepsBetween();
        minutesForFuel();
        earliestCutCounts();
        wayOutWhenItBegins();
        wayOutWhenItIsCut();
        wayOutWithTheCut();
        otherCrews();
        otherCrewsAreSavedByTheCut();
        ordersInEveryWorld();
        fuelNone();
        sixtyOrders();
        end("CrewEdgeTest");
    }

    private static void sixCrews() {
        sentence("CREWS 0 to 5, each in a CELL at a MINUTE (0 at first)");
        FireLines x = hills(3, 2);
        for (int k = 0; k < 6; k++) {
            due("crews", x.count(3), k);
            due("none such yet", x.look(k, 0), NONE);
            due("crew", x.crew(5 - k), k);
            due("its cell", x.look(k, 0), 5 - k);
            due("its minute", x.look(k, 1), 0);
            due("its orders", x.look(k, 2), 0);
        }
        due("a seventh", x.crew(0), NONE);
        due("crews", x.count(3), 6);
        due("none such", x.look(6, 0), NONE);
        due("the last one stands", x.look(5, 0), 0);
    }

    private static void walks() {
        sentence("walk from CELL to CELL up, down, left, right, 4 MINUTES each");
        for (int from = 0; from < 12; from++) {
            for (int to = 0; to < 12; to++) {
                // The fire begins in the safe cell at 100: nothing else burns for 20 minutes more.
                FireLines x = hills(4, 3);
                x.safe(to);
                x.light(to, 100);
                int steps = Math.abs(from / 4 - to / 4) + Math.abs(from % 4 - to % 4);
                due(from + " to " + to + " in time", x.out(from, 99 - 4 * steps), 1);
                due(from + " to " + to + " too late", x.out(from, 100 - 4 * steps), 0);
            }
        }
    }

    private static void firstCellAheadOfTheFire() {
        sentence("(also the first and the last one)");
        FireLines x = lane(2, 2, 0);
        x.safe(1);
        x.light(0, 50);
        due("first cell a minute ahead", x.out(0, 49), 1);
        due("first cell as it burns", x.out(0, 50), 0);
        due("first cell behind", x.out(0, 51), 0);
        due("the other never burns", x.out(1, 50), 1);
        FireLines y = lane(2, 2, 0);
        y.safe(0);
        y.light(0, 0);
        due("safe, but it burns from 0 on", y.out(0, 0), 0);
    }

    private static void eachCellAheadOfTheFire() {
        sentence("a walk to a SAFE CELL on which the CREW is in each CELL");
        // Of the three columns the middle one burns; 1 and 4 are on the two walks from 0 to 2.
        FireLines x = lane(3, 2, 1, 4);
        x.safe(2);
        x.light(1, 10);
        x.light(4, 20);
        due("by 1 at 9", x.out(0, 5), 1);
        due("by 1 at 10 not, but by 4 at 14", x.out(0, 6), 1);
        due("by 4 at 19", x.out(0, 11), 1);
        due("by 4 at 20 not", x.out(0, 12), 0);
        due("from 3 by 4 at 19", x.out(3, 15), 1);
        due("from 3 by 4 at 20", x.out(3, 16), 0);
        // A way round: 8 by 8 with a wall of fire from 0 on but for the last row.
        FireLines y = lane(8, 8, 4, 12, 20, 28, 36, 44, 52);
        y.safe(7);
        for (int c = 4; c < 56; c += 8) {
            y.light(c, 0);
        }
        due("round it", y.out(3, 5000), 1);
    }

    private static void lastCellAheadOfTheFire() {
        sentence("at a MINUTE ahead of that at which it burns there (if it ever does)");
        FireLines x = hills(8, 8);
        x.safe(63);
        due("there at 5056, nothing burns", x.out(0, 5000), 1);
        x.light(63, 5000);
        due("there at 4999", x.out(0, 4999 - 56), 1);
        due("there at 5000", x.out(0, 5000 - 56), 0);
        due("there behind 5000", x.out(0, 5000), 0);
        due("beside it at 4996", x.out(62, 4996), 0);
        due("beside it at 4995", x.out(62, 4995), 1);
        due("another safe cell", x.safe(0), true);
        due("it is there", x.out(0, 5000), 1);
    }

    private static void cellsThatNeverBurn() {
        sentence("at a MINUTE ahead of that at which it burns there (if it ever does)");
        FireLines x = lane(3, 2, 0);
        x.light(0, 0);
        x.safe(5);
        due("fuel 0 never burns", x.out(1, 5000), 1);
        due("0 burns", x.out(0, 0), 0);
    }

    private static void noSafeCell() {
        sentence("SAFE CELLS are told.");
        FireLines x = hills(2, 2);
        for (int c = 0; c < 4; c++) {
            due("none is told", x.out(c, 0), 0);
        }
        due("no order without one", crewOrder(x, 0), -2);
        due("told", x.safe(3), true);
        for (int c = 0; c < 4; c++) {
            due("one is told", x.out(c, 0), 1);
        }
        due("an order", x.order(0, 0, 0), 10);
        FireLines y = hills(8, 8);
        for (int c = 0; c < 64; c++) {
            due("all are told", y.safe(c), true);
            due("it is", y.about(c, 5), 1);
        }
    }

    private static int crewOrder(FireLines x, int c) {
        int k = x.crew(c);
        return x.order(k, c, 0);
    }

    private static void walkInEachWorld() {
        sentence("A WAY OUT from a CELL at a MINUTE: in each WORLD there is a walk to a SAFE CELL");
        // The fire in the middle of the lower row; 0 and 2 are safe, the crew is between them.
        FireLines x = hills(3, 2);
        x.safe(0);
        x.safe(2);
        x.light(4, 0);
        due("in calm air by 0 or 2 ahead of 28", x.out(1, 19), 1);
        due("world 1", x.world(), 1);
        x.wind(0, 0, 7, 9);
        x.wind(1, 0, 1, 9);
        due("0 burns early in world 0", x.burns(0, 0), 5);
        due("2 burns early in world 1", x.burns(1, 2), 5);
        due("by 2 in world 0, by 0 in world 1", x.out(1, 4), 1);
        due("1 itself burns", x.out(1, 5), 0);
        due("from 0 at 4", x.out(0, 4), 1);
        due("from 0 at 5: it burns in world 0", x.out(0, 5), 0);
        due("from 2 at 5: it burns in world 1", x.out(2, 5), 0);
        for (int w = 2; w < 4; w++) {
            FireLines y = hills(3, 2);
            y.safe(2);
            y.light(0, 0);
            for (int i = 1; i <= w; i++) {
                y.world();
            }
            due("in all worlds", y.out(2, 39), 1);
            y.wind(w, 0, 2, 9);
            due("not in the last one", y.out(2, 39), 0);
        }
    }

    private static void beginsWhenFree() {
        sentence("it begins when it is free (or at the MINUTE told, if that is later; it waits where it is)");
        int[] told = {0, 9, 10, 11, 4000};
        int[] want = {24, 24, 24, 25, 4014};
        for (int i = 0; i < told.length; i++) {
            FireLines x = hills(2, 2);
            x.safe(3);
            x.crew(0);
            due("free at 10", x.order(0, 0, 0), 10);
            due("told " + told[i], x.order(0, 1, told[i]), want[i]);
            due("free", x.look(0, 1), want[i]);
        }
    }

    private static void stepsBetween() {
        sentence("it is there behind 4 MINUTES for each step (rows and columns between)");
        for (int from = 0; from < 64; from += 9) {
            for (int to = 0; to < 64; to++) {
                FireLines x = hills(8, 8);
                x.safe(0);
                x.crew(from);
                int steps = Math.abs(from / 8 - to / 8) + Math.abs(from % 8 - to % 8);
                due(from + " to " + to, x.order(0, to, 0), 4 * steps + 10);
            }
        }
        FireLines y = hills(3, 5);
        y.safe(0);
        y.crew(2);
        due("from the end of a row to the next one's beginning", y.order(0, 3, 0), 12 + 10);
        due("from the first column to the last cell", y.order(0, 14, 0), 22 + 20 + 10);
    }

    private static void minutesForFuel() {
        sentence("the CELL is CUT behind 5 MINUTES for each FUEL more");
        for (int fuel = 1; fuel <= 4; fuel++) {
            FireLines x = hills(2, 2);
            x.safe(0);
            x.crew(0);
            x.cell(3, fuel, 9, 99);
            due("fuel " + fuel, x.order(0, 3, 0), 8 + 5 * fuel);
            due("cut", x.about(3, 3), 8 + 5 * fuel);
        }
    }

    private static void earliestCutCounts() {
        sentence("(from then on; the earliest counts)");
        FireLines x = hills(2, 2);
        x.safe(0);
        x.crew(0);
        x.crew(3);
        due("at 110", x.order(0, 0, 100), 110);
        due("again at 120", x.order(0, 0, 0), 120);
        due("the earlier counts", x.about(0, 3), 110);
        due("by another at 18", x.order(1, 0, 0), 18);
        due("the earlier counts still", x.about(0, 3), 18);
        due("the first one is free later", x.look(0, 1), 120);
        due("the second one earlier", x.look(1, 1), 18);
        x.cell(0, 1, 0, 0);
        x.light(1, 8);
        due("burns as it is cut", x.burns(0, 0), NONE);
        x.light(1, 7);
        due("burns ahead of the cut", x.burns(0, 0), 17);
    }

    private static void wayOutWhenItBegins() {
        sentence("there is a WAY OUT from where the CREW is when it begins to walk");
        int[] told = {0, 8, 9, 10, 11};
        int[] want = {18, 26, 27, -2, -2};
        for (int i = 0; i < told.length; i++) {
            FireLines x = hills(3, 2);
            x.safe(2);
            x.crew(0);
            x.light(0, 10);
            // All else is far off: 2 burns at 50.
            due("leaves 0 at " + told[i], x.order(0, 2, told[i]), want[i]);
            due("orders", x.count(5), want[i] == -2 ? 0 : 1);
        }
        // Where it is when it begins does not burn, but no way is left from there.
        FireLines y = hills(3, 3);
        y.safe(8);
        y.crew(0);
        y.light(1, 5);
        y.light(3, 5);
        due("shut in at 1", y.order(0, 8, 1), -2);
        due("not at 0", y.order(0, 8, 0), 26);
    }

    private static void wayOutWhenItIsCut() {
        sentence("from the CELL when it comes there, and from it when it is CUT");
        // The cell itself burns at 20.
        int[] told = {5, 6, 7};
        int[] want = {19, 20, -2};
        for (int i = 0; i < told.length; i++) {
            FireLines x = hills(3, 2);
            x.safe(2);
            x.crew(2);
            x.light(0, 0);
            due("cut at " + (told[i] + 14), x.order(0, 1, told[i]), want[i]);
        }
        // The cell is cut at 10, but both cells beside it burn before the crew is in them at 14.
        int[] lit = {13, 14, 15};
        int[] given = {-2, -2, 10};
        for (int i = 0; i < lit.length; i++) {
            FireLines y = hills(3, 2);
            y.safe(2);
            y.crew(0);
            y.light(1, lit[i]);
            y.light(4, lit[i]);
            due("beside it burns at " + lit[i], y.order(0, 0, 0), given[i]);
        }
        FireLines z = hills(3, 2);
        z.safe(2);
        z.crew(2);
        z.light(0, 0);
        due("it burns when the crew comes there", z.order(0, 0, 0), -2);
    }

    private static void wayOutWithTheCut() {
        sentence("It is given if, with it, there is a WAY OUT");
        FireLines x = lane(2, 2, 0, 1);
        x.safe(1);
        x.crew(1);
        x.light(0, 0);
        due("without it none at 20", x.out(1, 20), 0);
        due("cut at 21: it burns at 20", x.order(0, 1, 11), -2);
        due("cut at 20", x.order(0, 1, 10), 20);
        due("with it there is one", x.out(1, 20), 1);
    }

    private static void otherCrews() {
        sentence("and for each other CREW from where it is when it is free");
        for (int other = 0; other < 2; other++) {
            FireLines x = hills(4, 2);
            x.safe(3);
            x.safe(7);
            x.crew(other == 0 ? 0 : 3);
            x.crew(other == 0 ? 3 : 0);
            int sent = 1 - other;
            due("the other one is free at 10", x.order(other, 0, 0), 10);
            x.light(0, 11);
            due("a minute ahead of the fire", x.order(sent, 3, 0), 10);
            x.light(0, 10);
            due("as it burns there", x.order(sent, 3, 0), -2);
            due("one order was given to it", x.look(sent, 2), 1);
            x.cell(3, 1, 0, 0);
            due("nor an order of another kind", x.order(sent, 7, 30), -2);
        }
        // At minute 0, where it was never sent.
        FireLines y = hills(4, 2);
        y.safe(3);
        y.crew(3);
        y.crew(0);
        y.light(0, 1);
        due("a minute ahead of the fire", y.order(0, 3, 0), 10);
        y.light(0, 0);
        due("as it burns there", y.order(0, 3, 0), -2);
        // The last of six, and none but the last.
        FireLines z = hills(4, 2);
        z.safe(3);
        for (int k = 0; k < 5; k++) {
            z.crew(3);
        }
        z.crew(0);
        due("all have one", z.order(2, 3, 0), 10);
        z.light(0, 0);
        due("the last has none", z.order(2, 3, 0), -2);
        due("its own is looked at when it begins", z.order(5, 3, 0), -2);
    }

    private static void otherCrewsAreSavedByTheCut() {
        sentence("It is given if, with it, there is a WAY OUT");
        // Crew 1 is free in 7 at 60; the one safe cell, 3, burns at 60 if nothing else is cut.
        int[] cells = {3, 6};
        int[] want = {10, -2};
        for (int i = 0; i < cells.length; i++) {
            FireLines x = hills(4, 2);
            x.safe(3);
            x.crew(3);
            x.crew(7);
            due("crew 1", x.order(1, 7, 50), 60);
            x.light(0, 0);
            due("3 burns", x.burns(0, 3), 60);
            due("none for crew 1 as it is", x.out(7, 60), 0);
            due("cell " + cells[i], x.order(0, cells[i], 0), want[i]);
        }
    }

    private static void ordersInEveryWorld() {
        sentence("A WAY OUT from a CELL at a MINUTE: in each WORLD there is a walk to a SAFE CELL");
        for (int w = 0; w < 4; w++) {
            FireLines x = hills(3, 2);
            x.safe(2);
            x.crew(2);
            x.light(0, 0);
            for (int i = 1; i < 4; i++) {
                x.world();
            }
            // Cut at 14; in world w alone 1 burns at 13.
            x.wind(w, 0, 2, 1);
            due("1 in world " + w, x.burns(w, 1), 13);
            due("no way out in world " + w, x.order(0, 1, 0), -2);
            x.wind(w, 1, 2, 0);
            due("1 in world " + w, x.burns(w, 1), 20);
            due("a way out in all", x.order(0, 1, 0), 14);
            due("cut in all", x.count(7), 1);
        }
    }

    private static void fuelNone() {
        sentence("A CELL of FUEL 0 can't be cut.");
        FireLines x = hills(2, 2);
        x.safe(0);
        x.crew(0);
        x.cell(3, 0, 0, 0);
        due("fuel 0", x.order(0, 3, 0), NONE);
        due("not cut", x.about(3, 3), NONE);
        due("where it was", x.look(0, 0), 0);
        x.cell(3, 1, 0, 0);
        due("fuel 1", x.order(0, 3, 0), 13);
        x.cell(3, 0, 0, 0);
        due("cut and of fuel 0", x.order(0, 3, 0), NONE);
        due("cut it stays", x.about(3, 3), 13);
    }

    private static void sixtyOrders() {
        sentence("60 ORDERS at most.");
        FireLines x = hills(2, 2);
        x.safe(0);
        x.crew(0);
        x.crew(0);
        x.cell(0, 1, 0, 0);
        for (int i = 0; i < 59; i++) {
            due("order " + i, x.order(i % 2, 0, 0), 5 * (i / 2 + 1));
        }
        for (int i = 0; i < 70; i++) {
            due("refused ones do not count", x.order(0, 0, 4999), NONE);
        }
        due("59", x.count(5), 59);
        x.light(1, 0);
        x.light(2, 0);
        x.light(3, 0);
        due("nor such as leave no way out", x.order(0, 1, 0), -2);
        due("the sixtieth", x.order(1, 0, 0), 150);
        due("60", x.count(5), 60);
        due("the next", x.order(0, 0, 0), NONE);
        due("and of the other", x.order(1, 0, 0), NONE);
        due("one without a way out", x.order(0, 1, 0), NONE);
        due("30 each", x.look(0, 2), 30);
        due("30 each", x.look(1, 2), 30);
    }
}
