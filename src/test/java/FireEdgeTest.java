/** The edges that part 1 of the document's terms names: hills, cells, winds, the fire's going. */
public final class FireEdgeTest extends Sentences {
    private static final int[] ROW_STEP = {-1, -1, 0, 1, 1, 1, 0, -1};
    private static final int[] COLUMN_STEP = {0, 1, 1, 1, 0, -1, -1, -1};

    public static void main(String[] args) {
        sizesOfHills();
        cellsByNumbers();
        firesGoNotRoundTheEdge();
        fuelHeightWet();
        minutes();
        directions();
        worlds();
        windFromItsMinuteOn();
        forces();
        calmAheadOfTheFirstWind();
        eightWinds();
        turns();
        heights();
        oneAtLeast();
        work();
        drops();
        eachDropByItsOwnMinute();
        dropsNotBehindTheBeginning();
        slants();
        fuelNone();
        earliestTold();
        goesFromThen();
        firstMinuteAtWhichAllIsDone();
        notIfItBurnsEarlier();
        cutByThatMinute();
        cutHoldsForGoingAlone();
        minuteBehindTheSighting();
        goingOnFromTheSighting();
        nothingAbove5000();
        inEachWorld();
        end("FireEdgeTest");
    }

    private static void sizesOfHills() {
        sentence("HILLS of W columns and H rows (2 to 8 each; 6 and 6 at first)");
        FireLines x = new FireLines();
        due("W at first", x.count(0), 6);
        due("H at first", x.count(1), 6);
        int w = 6;
        int h = 6;
        for (int newW = -1; newW <= 10; newW++) {
            for (int newH = -1; newH <= 10; newH++) {
                boolean fine = newW >= 2 && newW <= 8 && newH >= 2 && newH <= 8;
                due("hills(" + newW + ", " + newH + ")", x.hills(newW, newH), fine);
                w = fine ? newW : w;
                h = fine ? newH : h;
                due("W", x.count(0), w);
                due("H", x.count(1), h);
            }
        }
    }

    private static void cellsByNumbers() {
        sentence("CELLS by numbers: W times the row and the column.");
        for (int w = 2; w <= 8; w++) {
            for (int h = 2; h <= 8; h++) {
                FireLines x = hills(w, h);
                due("below the first", x.about(-1, 0), NONE);
                due("the first", x.about(0, 0), 2);
                due("the last", x.about(w * h - 1, 0), 2);
                due("behind the last", x.about(w * h, 0), NONE);
                // The cell at row 1 and column 1 is the only one on a slant from cell 0.
                x.light(0, 0);
                due("W and 1", x.burns(0, w + 1), 28);
                due("W", x.burns(0, w), 20);
            }
        }
    }

    private static void firesGoNotRoundTheEdge() {
        sentence("CELLS by numbers: W times the row and the column.");
        FireLines x = hills(8, 3);
        x.light(15, 0);
        int[] cells = {7, 6, 14, 23, 22, 8, 16, 0};
        int[] want = {20, 28, 20, 20, 28, 140, 148, 148};
        for (int i = 0; i < cells.length; i++) {
            due("from the end of row 1 to " + cells[i], x.burns(0, cells[i]), want[i]);
        }
        FireLines y = hills(8, 3);
        y.light(8, 0);
        due("from the beginning of row 1 to 7", y.burns(0, 7), 148);
        due("to 15", y.burns(0, 15), 140);
        due("to 0", y.burns(0, 0), 20);
        FireLines z = hills(2, 8);
        z.light(15, 0);
        due("from the last cell to the first", z.burns(0, 0), 28 + 6 * 20);
        due("to the one at its left", z.burns(0, 14), 20);
    }

    private static void fuelHeightWet() {
        sentence("A CELL has FUEL (0 to 4; 2 at first), HEIGHT (0 to 9; 0), WET (0 to 99; 0).");
        int[] most = {4, 9, 99};
        int[] first = {2, 0, 0};
        for (int what = 0; what < 3; what++) {
            FireLines x = hills(2, 2);
            due("at first " + what, x.about(3, what), first[what]);
            int is = first[what];
            int[] values = {LEAST, -1, 0, 1, most[what] - 1, most[what], most[what] + 1, MOST};
            for (int value : values) {
                boolean fine = value >= 0 && value <= most[what];
                boolean got = x.cell(3, what == 0 ? value : 1, what == 1 ? value : 1, what == 2 ? value : 1);
                due("what " + what + " of " + value, got, fine);
                is = fine ? value : is;
                due("what " + what + " stands", x.about(3, what), is);
            }
        }
    }

    private static void minutes() {
        sentence("MINUTES are 0 to 5000.");
        int[] no = {LEAST, -1, 5001, MOST};
        for (int minute : no) {
            FireLines x = hills(2, 2);
            x.safe(0);
            x.crew(0);
            due("wind " + minute, x.wind(0, minute, 0, 0), false);
            due("light " + minute, x.light(0, minute), false);
            due("not " + minute, x.not(0, minute), false);
            due("drop " + minute, x.drop(0, minute), false);
            due("burnt " + minute, x.burnt(0, minute), NONE);
            due("out " + minute, x.out(0, minute), NONE);
            due("order " + minute, x.order(0, 0, minute), NONE);
        }
        int[] yes = {0, 5000};
        for (int minute : yes) {
            FireLines x = hills(2, 2);
            x.safe(0);
            x.crew(0);
            due("wind " + minute, x.wind(0, minute, 0, 0), true);
            due("not " + minute, x.not(0, minute), true);
            due("drop " + minute, x.drop(0, minute), true);
            due("burnt " + minute, x.burnt(0, minute), 0);
            due("out " + minute, x.out(0, minute), 1);
            due("light " + minute, x.light(1, minute), true);
            due("burns " + minute, x.burns(0, 1), minute);
        }
        FireLines y = hills(2, 2);
        y.safe(0);
        y.crew(0);
        due("order at 0", y.order(0, 0, 0), 10);
    }

    /** The minutes that the fire takes from the middle of 3 by 3 cells into one beside it, of work 1390. */
    private static int intoDirection(int d, int windTo, int force) {
        int c = 4 + 3 * ROW_STEP[d] + COLUMN_STEP[d];
        FireLines x = lane(3, 3, 4, c);
        x.cell(c, 4, 0, 99);
        x.light(4, 0);
        x.wind(0, 0, windTo, force);
        return x.burns(0, c);
    }

    private static int minutesFor(int d, int speed) {
        int work = d % 2 == 0 ? 1390 : 1946;
        return (work + speed - 1) / speed;
    }

    private static void directions() {
        sentence("Eight DIRECTIONS, 0 up (a row less), then by turns to the right: 1 up and right, 2 right, "
            + "3 down and right, 4 down, 5 down and left, 6 left, 7 up and left.");
        for (int d = 0; d < 8; d++) {
            due("just there " + d, intoDirection(d, d, 9), minutesFor(d, 64));
            due("opposite " + d, intoDirection(d, (d + 4) % 8, 2), minutesFor(d, 6));
        }
        FireLines x = hills(2, 2);
        int[] no = {LEAST, -1, 8, 9, MOST};
        for (int to : no) {
            due("to " + to, x.wind(0, 0, to, 1), false);
        }
        for (int to = 0; to < 8; to++) {
            due("to " + to, x.wind(0, to, to, 1), true);
        }
    }

    private static void worlds() {
        sentence("WORLDS 0 to 3 (one at first)");
        FireLines x = hills(2, 2);
        x.light(0, 0);
        for (int there = 1; there <= 4; there++) {
            due("worlds", x.count(2), there);
            for (int w = -1; w <= 5; w++) {
                boolean is = w >= 0 && w < there;
                due("burns in " + w, x.burns(w, 1), is ? 20 : NONE);
                due("burnt in " + w, x.burnt(w, 0), is ? 1 : NONE);
                due("from in " + w, x.from(w, 1), is ? 0 : NONE);
                due("wind in " + w, x.wind(w, there, 0, 0), is);
            }
            due("one more", x.world(), there < 4 ? there : NONE);
        }
        due("burns in the least number", x.burns(LEAST, 1), NONE);
        due("burns in the greatest number", x.burns(MOST, 1), NONE);
    }

    private static void windFromItsMinuteOn() {
        sentence("in each the WIND is told from MINUTES on");
        // Work 100 from minute 10: 10 a minute in calm, 64 from the wind's minute on.
        int[] since = {0, 9, 10, 11, 12, 13, 19, 20, 5000};
        int[] want = {12, 12, 12, 13, 14, 15, 20, 20, 20};
        for (int i = 0; i < since.length; i++) {
            FireLines x = lane(2, 2, 0, 1);
            x.cell(1, 1, 0, 0);
            x.light(0, 10);
            due("told", x.wind(0, since[i], 2, 9), true);
            due("wind from " + since[i] + " on", x.burns(0, 1), want[i]);
        }
        FireLines y = lane(2, 2, 0, 1);
        y.cell(1, 1, 0, 0);
        y.light(0, 10);
        y.wind(0, 0, 2, 9);
        due("until the next", y.wind(0, 11, 6, 9), true);
        // 64 in minute 10, then 1 a minute.
        due("the next from 11 on", y.burns(0, 1), 11 + 36);
    }

    private static void forces() {
        sentence("where it blows to (a DIRECTION) and its FORCE (0 to 9)");
        for (int force = -1; force <= 10; force++) {
            FireLines x = lane(2, 2, 0, 1);
            x.cell(1, 4, 0, 99);
            x.light(0, 0);
            boolean fine = force >= 0 && force <= 9;
            due("force " + force, x.wind(0, 0, 2, force), fine);
            int speed = fine ? 10 + 6 * force : 10;
            due("speed at " + force, x.burns(0, 1), minutesFor(2, speed));
        }
        FireLines y = hills(2, 2);
        due("the least number", y.wind(0, 0, 2, LEAST), false);
        due("the greatest number", y.wind(0, 0, 2, MOST), false);
    }

    private static void calmAheadOfTheFirstWind() {
        sentence("FORCE 0 ahead of the first");
        FireLines x = lane(2, 2, 0, 1);
        x.light(0, 0);
        due("no wind at all", x.burns(0, 1), 20);
        due("the first at 20", x.wind(0, 20, 2, 9), true);
        due("ahead of the first", x.burns(0, 1), 20);
        FireLines y = lane(2, 2, 0, 1);
        y.light(0, 0);
        due("the first at 19", y.wind(0, 19, 6, 9), true);
        // 190 by then, and 1 a minute for the last 10.
        due("but for the last minute", y.burns(0, 1), 29);
    }

    private static void eightWinds() {
        sentence("8 WINDS of one WORLD at most");
        FireLines x = lane(2, 2, 0, 1);
        x.cell(1, 4, 0, 99);
        x.light(0, 0);
        for (int i = 0; i < 8; i++) {
            due("wind " + i, x.wind(0, i, 6, 5), true);
        }
        due("the ninth", x.wind(0, 8, 2, 9), false);
        due("it does not blow", x.burns(0, 1), 1390);
        due("a world with these eight", x.world(), 1);
        due("is full too", x.wind(1, 8, 2, 9), false);
        FireLines y = hills(2, 2);
        due("an empty world", y.world(), 1);
        for (int i = 0; i < 8; i++) {
            due("wind of 0", y.wind(0, i, 0, 0), true);
            due("wind of 1", y.wind(1, i, 0, 0), true);
        }
        due("the ninth of 0", y.wind(0, 8, 0, 0), false);
        due("the ninth of 1", y.wind(1, 8, 0, 0), false);
    }

    private static void turns() {
        sentence("6 s if it blows just there; 4 s if one turn beside (the shorter way round); 0 two turns; "
            + "less s three turns; less 2 s four turns");
        int[] times = {6, 4, 0, -1, -2, -1, 0, 4};
        for (int to = 0; to < 8; to++) {
            for (int d = 0; d < 8; d++) {
                for (int force = 0; force <= 4; force += 2) {
                    int speed = 10 + times[(d - to + 8) % 8] * force;
                    due("wind " + to + " of " + force + " into " + d, intoDirection(d, to, force),
                        minutesFor(d, speed));
                }
            }
        }
    }

    private static int minutesDown(int from, int to, int windTo, int force) {
        FireLines x = lane(2, 2, 0, 1);
        x.cell(0, 2, from, 0);
        x.cell(1, 1, to, 0);
        x.light(0, 0);
        x.wind(0, 0, windTo, force);
        return x.burns(0, 1);
    }

    private static void heights() {
        sentence("then 3 for each HEIGHT that the CELL beside is higher, less 1 for each that it is lower");
        due("as high", minutesDown(5, 5, 0, 0), 10);
        due("one higher: 13", minutesDown(5, 6, 0, 0), 8);
        due("one lower: 9", minutesDown(5, 4, 0, 0), 12);
        due("nine higher: 37", minutesDown(0, 9, 0, 0), 3);
        due("nine higher with the wind: 91", minutesDown(0, 9, 2, 9), 2);
        due("eight lower: 2", minutesDown(8, 0, 0, 0), 50);
    }

    private static void oneAtLeast() {
        sentence("1 at least");
        due("just 1 by height", minutesDown(9, 0, 0, 0), 100);
        due("2 by wind", minutesDown(0, 0, 6, 4), 50);
        due("0 by wind", minutesDown(0, 0, 6, 5), 100);
        due("0 by both", minutesDown(2, 0, 6, 4), 100);
        due("far below 0", minutesDown(9, 0, 6, 9), 100);
        due("looked at behind the height: 10 - 18 + 27", minutesDown(0, 9, 6, 9), 6);
    }

    private static int minutesInto(int fuel, int wet) {
        FireLines x = lane(2, 2, 0, 1);
        x.cell(1, fuel, 0, wet);
        x.light(0, 7);
        return x.burns(0, 1) - 7;
    }

    private static void work() {
        sentence("100 times its FUEL and 10 times its WET");
        for (int fuel = 1; fuel <= 4; fuel++) {
            due("dry, fuel " + fuel, minutesInto(fuel, 0), 10 * fuel);
            due("wet 1, fuel " + fuel, minutesInto(fuel, 1), 10 * fuel + 1);
            due("wet 99, fuel " + fuel, minutesInto(fuel, 99), 10 * fuel + 99);
        }
        FireLines x = lane(2, 2, 0, 1);
        x.cell(0, 4, 0, 99);
        x.light(0, 0);
        due("its own, not that of the cell it comes from", x.burns(0, 1), 20);
    }

    private static void drops() {
        sentence("150 for each DROP over it");
        FireLines x = lane(2, 2, 0, 1);
        x.light(0, 0);
        x.drop(0, 0);
        due("over the cell it comes from", x.burns(0, 1), 20);
        x.drop(3, 0);
        due("over another", x.burns(0, 1), 20);
        for (int i = 1; i <= 38; i++) {
            due("drop", x.drop(1, 0), true);
            due(i + " over it", x.burns(0, 1), 20 + 15 * i);
        }
    }

    private static void eachDropByItsOwnMinute() {
        sentence("150 for each DROP over it at a MINUTE not behind that at which the going begins");
        FireLines x = lane(3, 2, 0, 1, 2);
        x.light(0, 10);
        // By turns over 2 in time, over 1 in time, over 2 too late, over 1 too late for its own going.
        int[] minutes = {0, 10, 5000, 11};
        int[] cells = {2, 1, 2, 1};
        int[] atOne = {30, 45, 45, 45};
        int[] atTwo = {65, 80, 80, 80};
        for (int i = 0; i < 4; i++) {
            due("drop", x.drop(cells[i], minutes[i]), true);
            due("1 behind drop " + i, x.burns(0, 1), atOne[i]);
            due("2 behind drop " + i, x.burns(0, 2), atTwo[i]);
        }
        due("one more over 1", x.drop(1, 0), true);
        due("two of three are in time", x.burns(0, 1), 60);
        due("two over 2, one of them in time", x.burns(0, 2), 95);
        due("one more over 2 as its going begins", x.drop(2, 60), true);
        due("two of three are in time there", x.burns(0, 2), 110);
        due("a minute behind that", x.drop(2, 61), true);
        due("that is too late", x.burns(0, 2), 110);
    }

    private static void dropsNotBehindTheBeginning() {
        sentence("at a MINUTE not behind that at which the going begins");
        int[] minutes = {0, 9, 10, 11, 29, 30, 5000};
        int[] want = {45, 45, 45, 30, 30, 30, 30};
        for (int i = 0; i < minutes.length; i++) {
            FireLines x = lane(2, 2, 0, 1);
            x.light(0, 10);
            x.drop(1, minutes[i]);
            due("drop at " + minutes[i], x.burns(0, 1), want[i]);
        }
        // Two cells go into a third: behind the drop from 2, ahead of it from 0.
        FireLines y = lane(3, 2, 0, 1, 2);
        y.light(0, 10);
        y.light(2, 11);
        y.drop(1, 11);
        due("the going that began ahead of it", y.burns(0, 1), 30);
        due("comes from 0", y.from(0, 1), 0);
        FireLines z = lane(3, 2, 0, 1, 2);
        z.light(0, 12);
        z.light(2, 11);
        z.drop(1, 12);
        due("from 2", z.burns(0, 1), 31);
        due("comes from 2", z.from(0, 1), 2);
    }

    private static void slants() {
        // Each work is a whole number of tens, so that seven fifths of it are never rounded.
        sentence("on a slant (DIRECTIONS 1, 3, 5, 7) seven fifths of that, rounded down");
        for (int d = 0; d < 8; d++) {
            int c = 4 + 3 * ROW_STEP[d] + COLUMN_STEP[d];
            FireLines x = lane(3, 3, 4, c);
            x.cell(c, 1, 9, 1);
            x.drop(c, 0);
            x.light(4, 0);
            // 260 or 364 at 37 a minute.
            due("into " + d, x.burns(0, c), d % 2 == 0 ? 8 : 10);
            x.wind(0, 0, (d + 4) % 8, 9);
            // at 19 a minute.
            due("against the wind into " + d, x.burns(0, c), d % 2 == 0 ? 14 : 20);
        }
    }

    private static void fuelNone() {
        sentence("Into a CELL of FUEL 0 the fire never goes.");
        FireLines x = hills(3, 2);
        x.cell(1, 0, 9, 0);
        x.cell(4, 0, 9, 99);
        x.light(0, 0);
        due("fuel 0", x.burns(0, 1), NONE);
        due("fuel 0 and wet", x.burns(0, 4), NONE);
        due("nothing behind them", x.burns(0, 2), NONE);
        due("nor the other", x.burns(0, 5), NONE);
        due("two burn", x.burnt(0, 5000), 2);
        due("fuel 1 again", x.cell(1, 1, 0, 0), true);
        due("it goes there again", x.burns(0, 1), 10);
        due("and on", x.burns(0, 2), 30);
    }

    private static void earliestTold() {
        sentence("THE FIRE begins in CELLS, each at a MINUTE (the earliest told).");
        FireLines x = lane(2, 2, 0);
        int[] told = {100, 101, 100, 99, 99, 1, 2, 0, 0, 5000};
        boolean[] taken = {true, false, false, true, false, true, false, true, false, false};
        int[] want = {100, 100, 100, 99, 99, 1, 1, 0, 0, 0};
        for (int i = 0; i < told.length; i++) {
            due("light at " + told[i], x.light(0, told[i]), taken[i]);
            due("begins", x.burns(0, 0), want[i]);
            due("told", x.about(0, 8), want[i]);
        }
        FireLines y = hills(8, 8);
        for (int c = 0; c < 64; c++) {
            due("all cells", y.light(c, c % 7), true);
        }
        for (int c = 0; c < 64; c++) {
            due("each at its own", y.burns(0, c), c % 7);
        }
    }

    private static void goesFromThen() {
        sentence("A CELL that burns from a MINUTE on goes from then into each CELL beside it");
        for (int minute = 0; minute <= 4000; minute += 800) {
            FireLines x = hills(3, 3);
            x.light(4, minute);
            for (int c = 0; c < 9; c++) {
                int want = c == 4 ? 0 : c % 2 == 1 ? 20 : 28;
                due("cell " + c + " from " + minute, x.burns(0, c), minute + want);
            }
        }
        FireLines y = hills(3, 3);
        y.light(0, 0);
        due("a corner goes into three", y.burnt(0, 28), 4);
    }

    private static void firstMinuteAtWhichAllIsDone() {
        sentence("that one burns from the first MINUTE at which all is done (m MINUTES behind the beginning: "
            + "the SPEEDS of m MINUTES)");
        due("100 by 10: just done", minutesInto(1, 0), 10);
        due("100 by 13: 91 in seven", minutesDown(0, 1, 0, 0), 8);
        due("100 by 16: 96 in six", minutesDown(0, 2, 0, 0), 7);
        due("100 by 34: 68 in two", minutesDown(0, 8, 0, 0), 3);
        due("100 by 37", minutesDown(0, 9, 0, 0), 3);
        // 10 a minute for 9 minutes, then 1 a minute: the sum is just done at the tenth.
        FireLines x = lane(2, 2, 0, 1);
        x.cell(1, 1, 0, 0);
        x.light(0, 0);
        x.wind(0, 9, 6, 9);
        due("90 and 10 by 1", x.burns(0, 1), 19);
        x.wind(0, 18, 2, 9);
        due("90 and 9 by 1, and 64", x.burns(0, 1), 19);
        x.wind(0, 19, 2, 9);
        due("a wind from the minute of burning on", x.burns(0, 1), 19);
    }

    private static void notIfItBurnsEarlier() {
        sentence("if it does not burn earlier, by no way.");
        FireLines x = lane(3, 2, 0, 1, 2);
        x.light(0, 0);
        due("from 0", x.burns(0, 1), 20);
        x.light(2, 1);
        due("2 is a minute later", x.burns(0, 1), 20);
        due("from 0 still", x.from(0, 1), 0);
        due("begins there at 19", x.light(1, 19), true);
        due("that is earlier", x.burns(0, 1), 19);
        due("it began there", x.from(0, 1), NONE);
        FireLines y = lane(3, 2, 0, 1, 2);
        y.light(2, 0);
        y.light(0, 1);
        due("0 is a minute later", y.burns(0, 1), 20);
        due("from 2 still", y.from(0, 1), 2);
        due("begins there at 21", y.light(1, 21), true);
        due("the going is earlier", y.burns(0, 1), 20);
        due("and goes on once", y.burns(0, 0), 1);
    }

    /** Cell 1 has fuel 1 and is cut at a minute; the fire is there at 10. */
    private static FireLines cutAt(int minute) {
        FireLines x = lane(4, 2, 0, 1, 2, 3);
        x.cell(1, 1, 0, 0);
        x.safe(7);
        x.crew(1);
        due("cut", x.order(0, 1, minute - 5), minute);
        x.light(0, 0);
        return x;
    }

    private static void cutByThatMinute() {
        sentence("If it is CUT by that MINUTE (or ahead of it), it never burns by going.");
        due("cut at 5", cutAt(5).burns(0, 1), NONE);
        due("cut at 9", cutAt(9).burns(0, 1), NONE);
        due("cut at 10", cutAt(10).burns(0, 1), NONE);
        due("cut at 11", cutAt(11).burns(0, 1), 10);
        due("cut at 5000", cutAt(5000).burns(0, 1), 10);
        due("nothing goes on from it", cutAt(10).burns(0, 2), NONE);
        due("it goes on though cut at 11", cutAt(11).burns(0, 2), 30);
        due("comes from nowhere", cutAt(10).from(0, 1), NONE);
        due("comes from 0", cutAt(11).from(0, 1), 0);
        FireLines x = cutAt(20);
        x.not(1, 18);
        due("seen until 18, cut at 20", x.burns(0, 1), 19);
        x.not(1, 19);
        due("seen until 19, cut at 20", x.burns(0, 1), NONE);
    }

    private static void cutHoldsForGoingAlone() {
        sentence("If it is CUT by that MINUTE (or ahead of it), it never burns by going.");
        FireLines x = cutAt(10);
        due("from the other side too", x.light(2, 100), true);
        due("never", x.burns(0, 1), NONE);
        due("the fire begins in it", x.light(1, 300), true);
        due("it burns from then on", x.burns(0, 1), 300);
        due("it began there", x.from(0, 1), NONE);
        FireLines y = cutAt(10);
        y.light(1, 5);
        due("begins ahead of the cut", y.burns(0, 1), 5);
        due("and goes on", y.burns(0, 2), 25);
    }

    private static void minuteBehindTheSighting() {
        sentence("A CELL that was told NOT to burn at a MINUTE burns by going at the MINUTE behind that at the earliest");
        int[] seen = {0, 18, 19, 20, 21, 100, 4998, 4999, 5000};
        int[] want = {20, 20, 20, 21, 22, 101, 4999, 5000, NONE};
        FireLines all = lane(2, 2, 0, 1);
        all.light(0, 0);
        for (int i = 0; i < seen.length; i++) {
            FireLines x = lane(2, 2, 0, 1);
            x.light(0, 0);
            due("seen", x.not(1, seen[i]), true);
            due("seen at " + seen[i], x.burns(0, 1), want[i]);
            due("seen on", all.not(1, seen[i]), true);
            due("the latest is " + seen[i], all.burns(0, 1), want[i]);
        }
        FireLines y = lane(2, 2, 0, 1);
        y.not(1, 50);
        y.light(1, 30);
        due("by going alone: the beginning stands", y.burns(0, 1), 30);
    }

    private static void goingOnFromTheSighting() {
        sentence("(going on from there then)");
        FireLines x = lane(3, 2, 0, 1, 2);
        x.light(0, 0);
        due("20 behind 20", x.burns(0, 2), 40);
        x.not(1, 19);
        due("as it was", x.burns(0, 2), 40);
        x.not(1, 20);
        due("20 behind 21", x.burns(0, 2), 41);
        x.not(1, 99);
        due("20 behind 100", x.burns(0, 2), 120);
        x.drop(2, 100);
        due("a drop as that going begins", x.burns(0, 2), 135);
        x.drop(2, 101);
        due("a drop behind it", x.burns(0, 2), 135);
        x.wind(0, 100, 2, 9);
        due("by the wind of then: 350 by 64", x.burns(0, 2), 106);
        due("from 1", x.from(0, 2), 1);
    }

    private static void nothingAbove5000() {
        sentence("Above 5000 nothing burns.");
        int[] lit = {4979, 4980, 4981, 5000};
        int[] want = {4999, 5000, NONE, NONE};
        for (int i = 0; i < lit.length; i++) {
            FireLines x = lane(2, 2, 0, 1);
            x.light(0, lit[i]);
            due("lit at " + lit[i], x.burns(0, 1), want[i]);
            due("from", x.from(0, 1), want[i] == NONE ? NONE : 0);
            due("burnt by 5000", x.burnt(0, 5000), want[i] == NONE ? 1 : 2);
            due("burn in no world", x.count(7), want[i] == NONE ? 3 : 2);
        }
        FireLines y = lane(2, 2, 0, 1);
        y.cell(1, 4, 0, 99);
        y.light(0, 0);
        y.wind(0, 0, 6, 9);
        for (int i = 0; i < 24; i++) {
            y.drop(1, 0);
        }
        due("1390 and 24 drops by 1", y.burns(0, 1), 4990);
        y.drop(1, 0);
        due("one drop more: above 5000", y.burns(0, 1), NONE);
    }

    private static void inEachWorld() {
        sentence("All that in each WORLD.");
        FireLines x = lane(8, 2, 0, 1, 2, 3, 4, 5, 6, 7);
        x.safe(15);
        x.crew(7);
        due("cut at 22", x.order(0, 6, 8), 22);
        for (int w = 1; w < 4; w++) {
            x.world();
            x.wind(w, 0, 2, w);
        }
        x.light(0, 0);
        x.drop(2, 0);
        x.not(4, 150);
        int[][] want = {{0, 20, 55, 75, 151, 171, NONE, NONE}, {0, 13, 35, 48, 151, 164, NONE, NONE},
            {0, 10, 26, 36, 151, 161, NONE, NONE}, {0, 8, 21, 29, 151, 159, NONE, NONE}};
        for (int w = 0; w < 4; w++) {
            for (int c = 0; c < 8; c++) {
                due("cell " + c + " in world " + w, x.burns(w, c), want[w][c]);
            }
        }
    }
}
