/** A method for each promise of the document: ordinary inputs, edges and wrong inputs. */
public final class PromiseTest {
    private static final int NONE = FireLines.NONE;
    private static int wrong = 0;

    private static void due(String what, long got, long want) {
        if (got != want) {
            wrong++;
            System.out.println(what + " answered " + got + ", due is " + want);
        }
    }

    private static void due(String what, boolean got, boolean want) {
        due(what, got ? 1 : 0, want ? 1 : 0);
    }

    private static FireLines hills(int w, int h) {
        FireLines x = new FireLines();
        due("hills(" + w + ", " + h + ")", x.hills(w, h), true);
        return x;
    }

    public static void main(String[] args) {
        newObject();
        hillsAnew();
        cells();
        worldsOfWind();
        winds();
        speedByTurns();
        speedByHeight();
        workSums();
        lights();
        sightings();
        sightingsAndCuts();
        drops();
        burns();
        burnt();
        from();
        safeCells();
        crews();
        waysOut();
        orders();
        ordersThatLeaveNoWayOut();
        mostOrders();
        looks();
        roadsAndExits();
        villages();
        ways();
        lastMinutes();
        maybes();
        plans();
        planInWorstWorld();
        about();
        counts();
        System.out.println(wrong == 0 ? "PromiseTest: all as due" : "PromiseTest: " + wrong + " wrong");
        if (wrong != 0) {
            System.exit(1);
        }
    }

    // Promise 1
    private static void newObject() {
        FireLines x = new FireLines();
        due("NONE", FireLines.NONE, -1);
        due("new W", x.count(0), 6);
        due("new H", x.count(1), 6);
        due("new worlds", x.count(2), 1);
        for (int what = 3; what <= 6; what++) {
            due("new count " + what, x.count(what), 0);
        }
        due("new cells that burn in no world", x.count(7), 36);
        due("new burnt", x.burnt(0, 5000), 0);
        for (int c = 0; c < 36; c++) {
            due("new burns", x.burns(0, c), NONE);
            due("new from", x.from(0, c), NONE);
            int[] want = {2, 0, 0, NONE, 0, 0, 0, 0, NONE, NONE};
            for (int what = 0; what < want.length; what++) {
                due("new about " + what, x.about(c, what), want[what]);
            }
        }
        due("new about 36", x.about(36, 0), NONE);
    }

    // Promise 2
    private static void hillsAnew() {
        FireLines x = new FireLines();
        int[][] refused = {{1, 5}, {5, 1}, {9, 5}, {5, 9}, {0, 0}, {-3, 4}, {Integer.MAX_VALUE, 2},
            {2, Integer.MIN_VALUE}};
        x.light(3, 7);
        for (int[] r : refused) {
            due("refused hills", x.hills(r[0], r[1]), false);
        }
        due("refused hills change nothing", x.burns(0, 3), 7);
        fillAll(x);
        due("it burns ahead of hills", x.burns(0, 10), 10);
        due("hills(2, 8)", x.hills(2, 8), true);
        due("W", x.count(0), 2);
        due("H", x.count(1), 8);
        due("worlds", x.count(2), 1);
        for (int what = 3; what <= 6; what++) {
            due("count anew " + what, x.count(what), 0);
        }
        due("none burns", x.count(7), 16);
        for (int c = 0; c < 16; c++) {
            int[] want = {2, 0, 0, NONE, 0, 0, 0, 0, NONE, NONE};
            for (int what = 0; what < want.length; what++) {
                due("about anew " + what, x.about(c, what), want[what]);
            }
        }
        due("crew is gone", x.look(0, 0), NONE);
        due("village is gone", x.way(0, 0), NONE);
        due("wind is gone", x.wind(0, 0, 4, 1), true);
        x.light(0, 0);
        due("only the new wind blows", x.burns(0, 2), 13);
        due("first crew again", x.crew(15), 0);
        due("its minute again", x.look(0, 1), 0);
        due("its orders again", x.look(0, 2), 0);
        due("40 drops again", dropMany(x, 41), 40);
        due("hills(8, 8)", x.hills(8, 8), true);
        due("64 cells", x.count(7), 64);
        due("cell 63", x.about(63, 0), 2);
        due("cell 64", x.about(64, 0), NONE);
    }

    private static void fillAll(FireLines x) {
        for (int c = 0; c < 36; c++) {
            x.cell(c, 3, 4, 5);
            x.safe(c);
            x.road(c);
            x.exit(c);
        }
        x.not(0, 4000);
        x.wind(0, 100, 3, 5);
        x.world();
        dropMany(x, 40);
        x.crew(35);
        due("an order ahead of hills", x.order(0, 35, 0), 15);
        x.village(0, 5, 5);
        x.maybe(9);
        x.light(10, 10);
    }

    private static int dropMany(FireLines x, int times) {
        int taken = 0;
        for (int i = 0; i < times; i++) {
            taken += x.drop(1, i) ? 1 : 0;
        }
        return taken;
    }

    // Promise 3
    private static void cells() {
        FireLines x = hills(2, 2);
        due("most", x.cell(3, 4, 9, 99), true);
        due("fuel", x.about(3, 0), 4);
        due("height", x.about(3, 1), 9);
        due("wet", x.about(3, 2), 99);
        int[][] refused = {{-1, 1, 1, 1}, {4, 1, 1, 1}, {3, -1, 1, 1}, {3, 5, 1, 1}, {3, 1, -1, 1},
            {3, 1, 10, 1}, {3, 1, 1, -1}, {3, 1, 1, 100}};
        for (int[] r : refused) {
            due("refused cell", x.cell(r[0], r[1], r[2], r[3]), false);
        }
        due("fuel stays", x.about(3, 0), 4);
        due("height stays", x.about(3, 1), 9);
        due("wet stays", x.about(3, 2), 99);
        due("least", x.cell(3, 0, 0, 0), true);
        due("fuel 0", x.about(3, 0), 0);
        x.light(0, 5);
        due("a lit cell loses its fuel", x.cell(0, 0, 0, 0), true);
        due("the fire began there all the same", x.burns(0, 0), 5);
        due("and goes on", x.burns(0, 1), 25);
        due("never into fuel 0", x.burns(0, 3), NONE);
    }

    // Promise 4
    private static void worldsOfWind() {
        FireLines x = hills(4, 2);
        x.light(0, 0);
        due("wind of 0", x.wind(0, 0, 2, 5), true);
        due("world 1", x.world(), 1);
        due("it has the wind of 0", x.burns(1, 1), 5);
        due("wind of 1", x.wind(1, 2, 6, 5), true);
        due("0 keeps its own", x.burns(0, 1), 5);
        // By 5: 60 on the slant by minute 2, then 5 a minute: 46; and 20 more up from there.
        due("1 changed", x.burns(1, 1), 66);
        due("world 2", x.world(), 2);
        due("2 is as 0, not as 1", x.burns(2, 1), 5);
        due("its latest is that of 0", x.wind(2, 0, 1, 1), false);
        due("a later one is behind it", x.wind(2, 1, 1, 1), true);
        due("world 3", x.world(), 3);
        due("no fifth", x.world(), NONE);
        due("worlds", x.count(2), 4);
        due("world 3 has the minute too", x.wind(3, 0, 0, 0), false);
        for (int i = 1; i < 8; i++) {
            due("winds of 0 to eight", x.wind(0, i * 10, 0, 0), true);
        }
        due("a ninth", x.wind(0, 1000, 0, 0), false);
        due("world 3 has its own count", x.wind(3, 10, 0, 0), true);
        FireLines y = hills(3, 2);
        y.light(0, 0);
        y.wind(0, 10, 2, 9);
        due("a wind from 10 on", y.burns(0, 1), 12);
        y.world();
        due("from 10 on in world 1 too", y.burns(1, 1), 12);
        due("and not again at 10", y.wind(1, 10, 0, 0), false);
    }

    // Promise 5
    private static void winds() {
        FireLines x = hills(5, 2);
        x.light(0, 10);
        int[][] refused = {{-1, 0, 0, 0}, {1, 0, 0, 0}, {0, -1, 0, 0}, {0, 5001, 0, 0}, {0, 0, -1, 0},
            {0, 0, 8, 0}, {0, 0, 0, -1}, {0, 0, 0, 10}};
        for (int[] r : refused) {
            due("refused wind", x.wind(r[0], r[1], r[2], r[3]), false);
        }
        due("calm", x.burns(0, 1), 30);
        due("wind at 12", x.wind(0, 12, 2, 9), true);
        // 20 by minute 12, then 64 a minute: 180 in three.
        due("calm ahead of the first", x.burns(0, 1), 15);
        due("not behind the latest", x.wind(0, 12, 2, 1), false);
        due("ahead of the latest", x.wind(0, 11, 2, 1), false);
        due("wind at 13", x.wind(0, 13, 6, 9), true);
        // 20 and 64, then 10 less 18, so 1 a minute: 116.
        due("one at least", x.burns(0, 1), 13 + 116);
        due("wind at 14", x.wind(0, 14, 0, 9), true);
        due("across it is 0 more", x.burns(0, 1), 14 + 12);
        due("at 5000", x.wind(0, 5000, 7, 0), true);
        due("behind 5000", x.wind(0, 5001, 7, 0), false);
        FireLines y = hills(2, 2);
        for (int i = 0; i < 8; i++) {
            due("eight", y.wind(0, i, i, i), true);
        }
        due("nine", y.wind(0, 8, 0, 0), false);
    }

    private static void speedByTurns() {
        int[] speed = {10 + 18, 10 + 12, 10, 10 - 3, 10 - 6, 10 - 3, 10, 10 + 12};
        int[] beside = {1, 2, 5, 8, 7, 6, 3, 0};
        for (int to = 0; to < 8; to++) {
            FireLines x = hills(3, 3);
            x.light(4, 0);
            x.wind(0, 0, to, 3);
            // Great work shows each speed by its own minutes; only cell d beside can burn.
            for (int d = 0; d < 8; d++) {
                for (int e = 0; e < 8; e++) {
                    x.cell(beside[e], e == d ? 4 : 0, 0, 99);
                }
                int work = d % 2 == 0 ? 1390 : 1946;
                int each = speed[(d - to + 8) % 8];
                due("wind " + to + " into " + d, x.burns(0, beside[d]), (work + each - 1) / each);
            }
        }
    }

    private static void speedByHeight() {
        for (int low = 0; low <= 9; low++) {
            for (int high = 0; high <= 9; high++) {
                FireLines x = hills(2, 2);
                x.cell(0, 2, low, 0);
                x.cell(1, 4, high, 99);
                x.light(0, 0);
                x.cell(2, 0, 0, 0);
                x.cell(3, 0, 0, 0);
                int rise = high - low;
                int speed = 10 + (rise > 0 ? 3 * rise : rise);
                due("height " + low + " to " + high, x.burns(0, 1), (1390 + speed - 1) / speed);
            }
        }
    }

    private static void workSums() {
        for (int fuel = 1; fuel <= 4; fuel++) {
            for (int wet = 0; wet <= 99; wet += 3) {
                int work = 100 * fuel + 10 * wet;
                // Three turns beside a wind of 9 the speed is 1: the minutes are the work itself.
                due("straight", minutesInto(1, fuel, wet, 7), work);
                due("slant", minutesInto(3, fuel, wet, 0), work * 7 / 5);
            }
        }
    }

    private static int minutesInto(int c, int fuel, int wet, int windTo) {
        FireLines x = hills(2, 2);
        for (int other = 1; other < 4; other++) {
            x.cell(other, other == c ? fuel : 0, 0, wet);
        }
        x.light(0, 0);
        x.wind(0, 0, windTo, 9);
        return x.burns(0, c);
    }

    // Promise 6
    private static void lights() {
        FireLines x = hills(3, 3);
        due("no cell", x.light(9, 0), false);
        due("no cell below", x.light(-1, 0), false);
        due("no minute", x.light(0, 5001), false);
        due("no minute below", x.light(0, -1), false);
        x.cell(2, 0, 0, 0);
        due("fuel 0", x.light(2, 0), false);
        due("at 5000", x.light(0, 5000), true);
        due("burns at 5000", x.burns(0, 0), 5000);
        due("nothing burns above", x.burnt(0, 5000), 1);
        due("told as early", x.light(0, 5000), false);
        due("earlier", x.light(0, 100), true);
        due("later", x.light(0, 101), false);
        due("the earliest", x.about(0, 8), 100);
        due("burns at 100", x.burns(0, 0), 100);
        due("a second one", x.light(8, 90), true);
        due("at 90", x.burns(0, 8), 90);
        due("the middle from 8", x.burns(0, 4), 118);
        due("lit at 200 but reached", x.light(1, 200), true);
        due("burns by going", x.burns(0, 1), 120);
        due("told at 200", x.about(1, 8), 200);
    }

    // Promise 7
    private static void sightings() {
        FireLines x = hills(3, 2);
        due("no cell", x.not(6, 0), false);
        due("no cell below", x.not(-1, 0), false);
        due("no minute", x.not(0, 5001), false);
        due("no minute below", x.not(0, -1), false);
        x.light(0, 10);
        due("at the beginning", x.not(0, 10), false);
        due("behind the beginning", x.not(0, 11), false);
        due("ahead of the beginning", x.not(0, 9), true);
        due("the beginning stands", x.burns(0, 0), 10);
        due("ahead of the going", x.not(1, 29), true);
        due("as it would be", x.burns(0, 1), 30);
        due("at the going", x.not(1, 30), true);
        due("a minute behind", x.burns(0, 1), 31);
        due("as late", x.not(1, 30), false);
        due("earlier", x.not(1, 5), false);
        due("later", x.not(1, 40), true);
        due("the latest", x.about(1, 9), 40);
        due("at 41", x.burns(0, 1), 41);
        due("goes on from there", x.burns(0, 2), 61);
        due("4 on the slant", x.burns(0, 4), 38);
        due("later still", x.not(1, 60), true);
        // From 4 at 38 on the slant: 28 more.
        due("another way is earlier", x.burns(0, 2), 66);
        due("until the end", x.not(5, 5000), true);
        due("above 5000 nothing burns", x.burns(0, 5), NONE);
        due("light behind a sighting", x.light(5, 20), true);
        due("a light stands", x.burns(0, 5), 20);
        due("the sighting is told still", x.about(5, 9), 5000);
        FireLines y = hills(2, 2);
        y.light(1, 0);
        y.light(2, 3);
        due("both would be there", y.not(3, 100), true);
        due("at 101", y.burns(0, 3), 101);
        due("of like ones the lowest", y.from(0, 3), 0);
    }

    private static void sightingsAndCuts() {
        FireLines x = hills(3, 2);
        x.safe(2);
        x.crew(1);
        x.light(0, 100);
        due("cut at 10", x.order(0, 1, 0), 10);
        due("seen not to burn", x.not(1, 300), true);
        due("cut it never burns by going", x.burns(0, 1), NONE);
        due("a cut cell can be lit", x.light(1, 5), true);
        due("then it burns", x.burns(0, 1), 5);
        // The work is done at 20, but it would burn at 51: a cut at 40 is ahead of that.
        FireLines y = hills(3, 2);
        y.safe(2);
        y.crew(1);
        y.light(0, 0);
        due("seen not to burn at 50", y.not(1, 50), true);
        due("at 51", y.burns(0, 1), 51);
        due("cut at 40", y.order(0, 1, 30), 40);
        due("it never burns by going", y.burns(0, 1), NONE);
    }

    // Promise 8
    private static void drops() {
        FireLines x = hills(2, 2);
        due("no cell", x.drop(4, 0), false);
        due("no cell below", x.drop(-1, 0), false);
        due("no minute", x.drop(0, 5001), false);
        due("no minute below", x.drop(0, -1), false);
        x.light(0, 10);
        x.cell(1, 0, 0, 0);
        x.cell(2, 0, 0, 0);
        due("behind the going", x.drop(3, 11), true);
        due("it is too late", x.burns(0, 3), 38);
        due("as the going begins", x.drop(3, 10), true);
        due("(200 + 150) 7 / 5", x.burns(0, 3), 10 + 49);
        due("ahead", x.drop(3, 0), true);
        due("twice", x.burns(0, 3), 10 + 70);
        due("three over it", x.about(3, 4), 3);
        for (int i = 3; i < 40; i++) {
            due("drop " + i, x.drop(i % 3, 5000), true);
        }
        due("40 were", x.drop(3, 0), false);
        due("three over it still", x.about(3, 4), 3);
        due("others", x.about(0, 4) + x.about(1, 4) + x.about(2, 4), 37);
    }

    // Promise 9
    private static void burns() {
        FireLines x = hills(8, 8);
        x.light(0, 0);
        due("no world", x.burns(1, 0), NONE);
        due("no world below", x.burns(-1, 0), NONE);
        due("no cell", x.burns(0, 64), NONE);
        due("no cell below", x.burns(0, -1), NONE);
        for (int c = 0; c < 64; c++) {
            int row = c / 8;
            int column = c % 8;
            int slants = Math.min(row, column);
            due("still air", x.burns(0, c), 28 * slants + 20 * (Math.max(row, column) - slants));
        }
        FireLines y = hills(2, 2);
        y.light(0, 4980);
        due("at 5000", y.burns(0, 1), 5000);
        due("at 5008 not", y.burns(0, 3), NONE);
        y.light(0, 4979);
        due("at 4999", y.burns(0, 1), 4999);
    }

    // Promise 10
    private static void burnt() {
        FireLines x = hills(3, 2);
        x.light(0, 50);
        due("no world", x.burnt(1, 0), NONE);
        due("no world below", x.burnt(-1, 0), NONE);
        due("no minute", x.burnt(0, 5001), NONE);
        due("no minute below", x.burnt(0, -1), NONE);
        int[] minutes = {0, 49, 50, 69, 70, 77, 78, 89, 90, 97, 98, 5000};
        int[] want = {0, 0, 1, 1, 3, 3, 4, 4, 5, 5, 6, 6};
        for (int i = 0; i < minutes.length; i++) {
            due("burnt by " + minutes[i], x.burnt(0, minutes[i]), want[i]);
        }
    }

    // Promise 11
    private static void from() {
        FireLines x = hills(3, 3);
        due("nothing burns", x.from(0, 0), NONE);
        x.light(0, 0);
        x.light(8, 0);
        due("no world", x.from(1, 0), NONE);
        due("no cell", x.from(0, 9), NONE);
        due("no cell below", x.from(0, -1), NONE);
        due("it began there", x.from(0, 0), NONE);
        due("1 from 0", x.from(0, 1), 0);
        due("5 from 8", x.from(0, 5), 8);
        due("of like ones the lowest", x.from(0, 4), 0);
        due("2 from 1, not from 5", x.from(0, 2), 1);
        due("6 from 3, not from 7", x.from(0, 6), 3);
        due("told to begin as the going ends", x.light(4, 28), true);
        due("it began there too", x.from(0, 4), NONE);
        due("told to begin later", x.light(1, 21), true);
        due("the going was earlier", x.from(0, 1), 0);
        due("told to begin earlier", x.light(5, 19), true);
        due("it began", x.from(0, 5), NONE);
    }

    // Promise 12
    private static void safeCells() {
        FireLines x = hills(2, 3);
        due("no cell", x.safe(6), false);
        due("no cell below", x.safe(-1), false);
        due("a cell", x.safe(5), true);
        due("it is", x.safe(5), false);
        due("about", x.about(5, 5), 1);
        due("about another", x.about(4, 5), 0);
        due("a way out", x.out(0, 0), 1);
    }

    // Promise 13
    private static void crews() {
        FireLines x = hills(2, 2);
        due("no cell", x.crew(4), NONE);
        due("no cell below", x.crew(-1), NONE);
        for (int k = 0; k < 6; k++) {
            due("crew", x.crew(3 - k % 4), k);
        }
        due("six are there", x.crew(0), NONE);
        due("crews", x.count(3), 6);
        due("the place of 5", x.look(5, 0), 2);
        due("from 0 on", x.look(5, 1), 0);
    }

    // Promise 14
    private static void waysOut() {
        FireLines x = hills(5, 2);
        due("no safe cell", x.out(0, 0), 0);
        x.safe(4);
        due("no cell", x.out(10, 0), NONE);
        due("no cell below", x.out(-1, 0), NONE);
        due("no minute", x.out(0, 5001), NONE);
        due("no minute below", x.out(0, -1), NONE);
        due("nothing burns", x.out(0, 5000), 1);
        x.light(4, 20);
        due("there at 16", x.out(0, 0), 1);
        due("there at 19", x.out(0, 3), 1);
        due("there at 20", x.out(0, 4), 0);
        due("in it at 19", x.out(4, 19), 1);
        due("in it at 20", x.out(4, 20), 0);
        due("the first burns", x.light(0, 2), true);
        due("ahead of it", x.out(0, 1), 1);
        due("as it burns", x.out(0, 2), 0);
        x.light(2, 8);
        x.light(7, 9);
        due("up is shut at 8, down goes at 12: no", x.out(0, 0), 0);
        due("from 1 at 3", x.out(1, 3), 1);
        due("from 1 at 4: by 6 at 8 and 7 at 12", x.out(1, 4), 0);
        due("from 6 at 3: in 4 at 19", x.out(6, 3), 1);
        due("from 6 at 4: in 4 at 20", x.out(6, 4), 0);
        due("another world", x.world(), 1);
        due("another safe cell", x.safe(5), true);
        due("another way", x.out(6, 5), 1);
        // Each world may have a walk of its own; one world without shuts the way out.
        FireLines y = hills(3, 2);
        y.safe(0);
        y.safe(2);
        y.light(4, 0);
        y.world();
        y.wind(0, 0, 7, 9);
        y.wind(1, 0, 1, 9);
        due("cell 0 in world 0", y.burns(0, 0), 5);
        due("cell 2 in world 0", y.burns(0, 2), 28);
        due("cell 0 in world 1", y.burns(1, 0), 28);
        due("cell 2 in world 1", y.burns(1, 2), 5);
        due("cell 1", y.burns(0, 1), 5);
        due("left or right, by the world", y.out(1, 1), 1);
        due("from 0 at 4", y.out(0, 4), 1);
        due("from 0 at 5", y.out(0, 5), 0);
    }

    // Promise 15
    private static void orders() {
        FireLines x = hills(6, 2);
        x.safe(5);
        x.safe(11);
        due("no crew", x.order(0, 3, 0), NONE);
        x.crew(4);
        x.cell(9, 0, 0, 0);
        due("no crew 1", x.order(1, 3, 0), NONE);
        due("no crew below", x.order(-1, 3, 0), NONE);
        due("no cell", x.order(0, 12, 0), NONE);
        due("no cell below", x.order(0, -1, 0), NONE);
        due("no minute", x.order(0, 3, 5001), NONE);
        due("no minute below", x.order(0, 3, -1), NONE);
        due("fuel 0", x.order(0, 9, 0), NONE);
        due("above 5000", x.order(0, 3, 4987), NONE);
        due("nothing is changed", x.look(0, 2) + x.look(0, 1) + x.count(5), 0);
        x.light(0, 100);
        due("at 7, a step, fuel 2", x.order(0, 3, 7), 21);
        due("cut", x.about(3, 3), 21);
        due("free at 21 in 3, two steps", x.order(0, 8, 0), 39);
        due("cut 8", x.about(8, 3), 39);
        due("the fire is held but for 9 of fuel 0", x.burnt(0, 5000), 5);
        due("cut again, later", x.order(0, 3, 50), 68);
        due("the earliest counts", x.about(3, 3), 21);
        due("a second crew", x.crew(8), 1);
        x.cell(8, 1, 0, 0);
        due("in the cell, fuel 1, earlier", x.order(1, 8, 0), 5);
        due("the earliest of both", x.about(8, 3), 5);
        due("orders", x.count(5), 4);
        due("until 5000", x.order(1, 8, 4995), 5000);
        due("then never more", x.order(1, 8, 0), NONE);
        due("5 orders", x.count(5), 5);
        FireLines y = hills(3, 2);
        y.safe(2);
        y.crew(2);
        y.light(0, 0);
        due("1 burns at 20", y.burns(0, 1), 20);
        due("cut at 20 is in time", y.order(0, 1, 6), 20);
        due("it never burns", y.burns(0, 1), NONE);
    }

    private static void ordersThatLeaveNoWayOut() {
        FireLines x = hills(3, 2);
        x.safe(2);
        x.crew(2);
        x.light(0, 0);
        due("cut at 21 is too late", x.order(0, 1, 7), -2);
        due("nothing is changed", x.look(0, 0), 2);
        due("not free later", x.look(0, 1), 0);
        due("no order", x.look(0, 2) + x.count(5), 0);
        due("not cut", x.about(1, 3), NONE);
        due("it burns", x.burns(0, 1), 20);
        due("to the fire itself", x.order(0, 0, 0), -2);
        // Where the crew waits, the fire is there when it would begin to walk.
        due("waits until 3 burns", x.order(0, 5, 48), -2);
        FireLines y = hills(2, 2);
        y.crew(0);
        due("no safe cell", y.order(0, 1, 0), -2);
        y.safe(1);
        due("a safe cell", y.order(0, 1, 0), 14);
        // Another crew that has no way out forbids every order.
        FireLines z = hills(4, 2);
        z.safe(3);
        z.crew(3);
        z.crew(0);
        z.light(0, 0);
        due("crew 1 burns", z.order(0, 3, 0), -2);
        due("the other one is in the fire itself", z.order(1, 3, 0), -2);
        FireLines s = hills(4, 2);
        s.safe(3);
        s.crew(0);
        s.crew(3);
        s.light(0, 0);
        due("crew 0 burns", s.order(1, 3, 0), -2);
        FireLines v = hills(4, 2);
        v.safe(3);
        v.crew(3);
        v.crew(0);
        v.light(0, 1);
        due("crew 1 can go", v.order(0, 3, 0), 10);
        // In one of two worlds alone the fire is there too early.
        FireLines u = hills(3, 2);
        u.safe(2);
        u.crew(2);
        u.light(0, 0);
        u.world();
        u.wind(1, 0, 2, 1);
        due("1 in world 1", u.burns(1, 1), 13);
        due("14 is too late there", u.order(0, 1, 0), -2);
        u.cell(1, 1, 0, 0);
        due("of fuel 1 it burns at 7", u.order(0, 1, 0), -2);
        u.cell(1, 1, 0, 10);
        due("wet: 13 again, cut at 9", u.order(0, 1, 0), 9);
        due("NONE goes ahead of -2", u.order(0, 0, 5000), NONE);
        // The cut itself can open the way out: without it the fire takes the safe cell at 40.
        FireLines t = hills(2, 2);
        t.cell(2, 0, 0, 0);
        t.cell(3, 0, 0, 0);
        t.cell(1, 4, 0, 99);
        t.safe(1);
        t.crew(1);
        t.light(0, 0);
        due("burns at 139", t.burns(0, 1), 139);
        due("cut as it would burn", t.order(0, 1, 119), 139);
        due("cut", t.burns(0, 1), NONE);
    }

    private static void mostOrders() {
        FireLines x = hills(2, 2);
        x.safe(0);
        x.crew(0);
        x.crew(3);
        x.cell(0, 1, 0, 0);
        for (int i = 0; i < 60; i++) {
            due("order " + i, x.order(0, 0, 0), 5 * (i + 1));
        }
        due("60 were given", x.order(0, 0, 0), NONE);
        due("by others too", x.order(1, 3, 0), NONE);
        due("60", x.count(5), 60);
        due("60 to it", x.look(0, 2), 60);
        due("none to the other", x.look(1, 2), 0);
    }

    // Promise 16
    private static void looks() {
        FireLines x = hills(4, 4);
        due("no crew", x.look(0, 0), NONE);
        x.safe(0);
        x.crew(5);
        x.crew(6);
        x.order(1, 15, 100);
        int[][] want = {{5, 0, 0}, {15, 122, 1}};
        for (int k = 0; k < 2; k++) {
            for (int what = 0; what < 3; what++) {
                due("look " + k + " " + what, x.look(k, what), want[k][what]);
            }
            due("no such", x.look(k, 3), NONE);
            due("no such below", x.look(k, -1), NONE);
        }
        due("no crew 2", x.look(2, 0), NONE);
        due("no crew below", x.look(-1, 0), NONE);
    }

    // Promises 17 and 18
    private static void roadsAndExits() {
        FireLines x = hills(3, 2);
        due("no cell", x.road(6), false);
        due("no cell below", x.road(-1), false);
        due("a road", x.road(5), true);
        due("it is", x.road(5), false);
        due("no cell", x.exit(6), false);
        due("no cell below", x.exit(-1), false);
        due("an exit", x.exit(5), true);
        due("it is", x.exit(5), false);
        due("another", x.exit(0), true);
        due("road 5", x.about(5, 6), 1);
        due("road 0", x.about(0, 6), 0);
        due("exit 5", x.about(5, 7), 1);
        due("exit 0", x.about(0, 7), 1);
        due("exit 1", x.about(1, 7), 0);
    }

    // Promise 19
    private static void villages() {
        FireLines x = hills(3, 2);
        int[][] refused = {{-1, 1, 1}, {6, 1, 1}, {0, 0, 1}, {0, 501, 1}, {0, 1, 0}, {0, 1, 51},
            {0, -5, 1}, {0, 1, -5}};
        for (int[] r : refused) {
            due("refused village", x.village(r[0], r[1], r[2]), NONE);
        }
        due("villages", x.count(4), 0);
        due("most", x.village(5, 500, 50), 0);
        for (int v = 1; v < 6; v++) {
            due("village", x.village(0, 1, 1), v);
        }
        due("six are there", x.village(0, 1, 1), NONE);
        due("villages", x.count(4), 6);
    }

    // Promise 20
    private static void ways() {
        FireLines x = hills(4, 4);
        due("no village", x.way(0, 0), NONE);
        x.village(5, 1, 1);
        due("no way", x.way(0, 0), NONE);
        due("no village below", x.way(-1, 0), NONE);
        due("no village 1", x.way(1, 0), NONE);
        x.exit(15);
        int[] roads = {6, 7, 11, 10, 9, 13, 14};
        for (int c : roads) {
            x.road(c);
        }
        // Of the ways 5-6-7-11-15, 5-6-10-11-15, 5-6-10-14-15, 5-9-... the least row of cells.
        wayIs(x, 0, 5, 6, 7, 11, 15);
        x.exit(13);
        wayIs(x, 0, 5, 9, 13);
        x.exit(0);
        wayIs(x, 0, 5, 9, 13);
        x.road(1);
        wayIs(x, 0, 5, 1, 0);
        x.village(0, 1, 1);
        wayIs(x, 1, 0);
        x.village(3, 1, 1);
        wayIs(x, 2, 3, 7, 11, 15);
        x.village(12, 1, 1);
        wayIs(x, 3, 12, 13);
        x.village(2, 1, 1);
        wayIs(x, 4, 2, 1, 0);
        // No way by a slant, and none round the edge of a row.
        FireLines y = hills(3, 3);
        y.village(4, 1, 1);
        y.exit(0);
        due("a slant is no step", y.way(0, 0), NONE);
        y.village(3, 1, 1);
        y.exit(2);
        due("3 is beside 0", y.way(1, 1), 0);
        y.village(6, 1, 1);
        due("6 is not beside 5", y.way(2, 0), NONE);
        y.exit(5);
        due("6 is not beside 5 still", y.way(2, 0), NONE);
        due("4 is", y.way(0, 1), 5);
    }

    private static void wayIs(FireLines x, int v, int... cells) {
        for (int i = 0; i < cells.length; i++) {
            due("way of " + v + " at " + i, x.way(v, i), cells[i]);
        }
        due("behind the way of " + v, x.way(v, cells.length), NONE);
        due("ahead of the way of " + v, x.way(v, -1), NONE);
        due("far behind", x.way(v, Integer.MAX_VALUE), NONE);
    }

    // Promise 21
    private static void lastMinutes() {
        FireLines x = hills(5, 2);
        due("no village", x.last(0), NONE);
        x.village(4, 1, 1);
        due("no way", x.last(0), NONE);
        due("no village below", x.last(-1), NONE);
        x.exit(2);
        x.road(3);
        due("nothing burns", x.last(0), 5000);
        x.light(2, 100);
        due("in 2 at 99", x.last(0), 97);
        x.village(4, 5, 5);
        due("5 in a minute", x.last(1), 97);
        x.village(4, 6, 5);
        due("the sixth is a minute behind", x.last(2), 96);
        x.village(4, 96, 1);
        due("95 behind", x.last(3), 2);
        x.village(4, 98, 1);
        due("97 behind: at 0", x.last(4), 0);
        x.village(4, 99, 1);
        due("too late at 0", x.last(5), NONE);
        due("no village 6", x.last(6), NONE);
        x.light(4, 50);
        due("its own cell burns", x.last(0), 49);
        due("another world", x.world(), 1);
        x.light(9, 40);
        due("4 by 9 at 50", x.last(0), 49);
        x.wind(1, 0, 0, 9);
        due("4 in world 1", x.burns(1, 4), 44);
        due("the worst of the worlds", x.last(0), 43);
        // The way burns nowhere though all else does.
        FireLines y = hills(2, 2);
        y.cell(0, 0, 0, 0);
        y.village(0, 500, 1);
        y.exit(0);
        y.light(3, 0);
        due("none of them ever burns", y.last(0), 5000);
        y.village(1, 1, 1);
        due("1 burns at 20", y.last(1), 19);
        FireLines z = hills(2, 2);
        z.light(0, 5000);
        z.village(0, 1, 1);
        z.exit(0);
        due("burns at 5000", z.last(0), 4999);
    }

    // Promise 22
    private static void maybes() {
        FireLines x = hills(4, 2);
        due("no cell", x.maybe(8), false);
        due("no cell below", x.maybe(-1), false);
        x.cell(1, 0, 0, 0);
        due("fuel 0", x.maybe(1), false);
        due("none", x.count(6), 0);
        x.cell(7, 1, 0, 0);
        due("a cell of fuel 1", x.maybe(7), true);
        due("it is told", x.maybe(7), false);
        for (int c = 2; c < 7; c++) {
            due("more", x.maybe(c), true);
        }
        due("six are", x.maybe(0), false);
        due("six", x.count(6), 6);
    }

    // Promise 23
    private static void plans() {
        FireLines x = hills(5, 2);
        for (int k = 0; k <= 6; k++) {
            due("nothing is told", x.plan(k), 0);
        }
        due("no k", x.plan(7), NONE);
        due("no k below", x.plan(-1), NONE);
        x.maybe(3);
        x.maybe(1);
        x.maybe(8);
        x.maybe(6);
        x.maybe(9);
        due("nothing burns", x.plan(6), 0);
        x.light(0, 30);
        due("none", x.plan(0), 0);
        // One cut saves that one cell alone, whichever it is: the least as bits.
        due("one", x.plan(1), 1);
        // 1 and 6 leave 0 and 5; 3 and 8 would leave six.
        due("two", x.plan(2), 10);
        due("no more are needed", x.plan(3), 10);
        due("nor six", x.plan(6), 10);
        due("no cell is cut by it", x.about(1, 3), NONE);
        due("all burn still", x.burnt(0, 5000), 10);
        x.light(1, 4000);
        // 1 burns when told, cut or not.
        due("1 is lit", x.plan(2), 5);
        x.cell(6, 0, 0, 0);
        due("6 lost its fuel", x.plan(1), 1);
    }

    private static void planInWorstWorld() {
        FireLines x = hills(2, 8);
        x.light(7 * 2, 4900);
        x.world();
        x.wind(0, 0, 0, 9);
        x.wind(1, 0, 4, 9);
        // In world 0 the fire runs up all rows; in world 1 it stays where it is.
        due("world 0", x.burnt(0, 5000), 16);
        due("world 1", x.burnt(1, 5000), 2);
        x.maybe(2);
        x.maybe(3);
        x.maybe(15);
        due("rows above are saved", x.plan(2), 3);
        x.light(0, 0);
        // World 1 now burns all rows but those cut.
        due("worst", x.plan(2), 3);
        due("15 too", x.plan(3), 7);
    }

    // Promise 24
    private static void about() {
        FireLines x = hills(3, 3);
        x.cell(4, 3, 5, 7);
        x.safe(4);
        x.road(4);
        x.exit(4);
        x.crew(4);
        x.drop(4, 1);
        x.drop(4, 2);
        x.not(4, 60);
        x.light(4, 90);
        x.order(0, 4, 0);
        int[] want = {3, 5, 7, 15, 2, 1, 1, 1, 90, 60};
        for (int what = 0; what < want.length; what++) {
            due("about " + what, x.about(4, what), want[what]);
        }
        due("no such", x.about(4, 10), NONE);
        due("no such below", x.about(4, -1), NONE);
        due("no cell", x.about(9, 0), NONE);
        due("no cell below", x.about(-1, 0), NONE);
    }

    // Promise 25
    private static void counts() {
        FireLines x = hills(7, 3);
        x.world();
        x.world();
        x.crew(0);
        x.crew(1);
        x.crew(2);
        x.crew(3);
        x.safe(0);
        x.order(2, 2, 0);
        x.order(2, 2, 0);
        for (int v = 0; v < 5; v++) {
            x.village(v, 1, 1);
        }
        for (int c = 0; c < 6; c++) {
            x.maybe(c);
        }
        int[] want = {7, 3, 3, 4, 5, 2, 6, 21};
        for (int what = 0; what < want.length; what++) {
            due("count " + what, x.count(what), want[what]);
        }
        due("no such", x.count(8), NONE);
        due("no such below", x.count(-1), NONE);
        FireLines y = hills(2, 2);
        y.light(0, 4985);
        y.world();
        y.wind(1, 0, 4, 9);
        due("2 burns in world 1 alone", y.burns(0, 2), NONE);
        due("there it burns", y.burns(1, 2), 4989);
        due("1 and 3 but for world 1", y.burns(0, 1), NONE);
        due("3 in world 1", y.burns(1, 3), 4985 + 7);
        due("1 in world 1", y.burns(1, 1), NONE);
        due("1 burns in no world", y.count(7), 1);
        y.wind(0, 0, 2, 9);
        due("1 in world 0", y.burns(0, 1), 4989);
        due("each burns in some world", y.count(7), 0);
    }
}
