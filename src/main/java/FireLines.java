import java.util.Arrays;

/**
 * A fire on hills of cells, in several worlds of wind: when each cell burns, which orders leave
 * crews a way out, when villages must leave, and which cells are best cut.
 */
public final class FireLines {
    public static final int NONE = -1;

    private static final int NO_WAY_OUT = -2;
    private static final int LEAST_SIDE = 2;
    private static final int MOST_SIDE = 8;
    private static final int FIRST_SIDE = 6;
    private static final int MOST_CELLS = 64;
    private static final int MOST_FUEL = 4;
    private static final int FIRST_FUEL = 2;
    private static final int MOST_HEIGHT = 9;
    private static final int MOST_WET = 99;
    private static final int END = 5000;
    private static final int DIRECTIONS = 8;
    private static final int MOST_WORLDS = 4;
    private static final int MOST_WINDS = 8;
    private static final int MOST_FORCE = 9;
    private static final int MOST_DROPS = 40;
    private static final int MOST_CREWS = 6;
    private static final int MOST_ORDERS = 60;
    private static final int MINUTES_A_STEP = 4;
    private static final int MINUTES_A_FUEL = 5;
    private static final int MOST_VILLAGES = 6;
    private static final int MOST_CARS = 500;
    private static final int MOST_RATE = 50;
    private static final int MOST_MAYBES = 6;

    /** Stands for a minute that never comes: far above all minutes, far below an int's end. */
    private static final int NEVER = 1000000;
    /** A cut that is there before any fire can come. */
    private static final int AHEAD_OF_ALL = -1;

    private static final int[] ROW_STEP = {-1, -1, 0, 1, 1, 1, 0, -1};
    private static final int[] COLUMN_STEP = {0, 1, 1, 1, 0, -1, -1, -1};
    /** What a force of one adds to the speed, by the turns between the wind and the going. */
    private static final int[] PUSH_BY_TURNS = {6, 4, 0, -1, -2};

    private final Ground ground;
    private final Winds[] winds;
    private final Fire[] fires;
    /** Holds a fire that is only thought of, so that the known ones stay as they are. */
    private final Fire trial;
    private final Escape escape;
    private final Crews crews;
    private final Villages villages;
    private final Ways ways;
    private final Maybes maybes;
    private int worlds;

    public FireLines() {
        ground = new Ground();
        winds = new Winds[MOST_WORLDS];
        fires = new Fire[MOST_WORLDS];
        for (int w = 0; w < MOST_WORLDS; w++) {
            winds[w] = new Winds();
            fires[w] = new Fire();
        }
        trial = new Fire();
        escape = new Escape();
        crews = new Crews();
        villages = new Villages();
        ways = new Ways();
        maybes = new Maybes();
        beginAnew(FIRST_SIDE, FIRST_SIDE);
    }

    public boolean hills(int w, int h) {
        if (!isWithin(w, LEAST_SIDE, MOST_SIDE) || !isWithin(h, LEAST_SIDE, MOST_SIDE)) {
            return false;
        }
        beginAnew(w, h);
        return true;
    }

    public boolean cell(int c, int fuel, int height, int wet) {
        if (!ground.has(c) || !isWithin(fuel, 0, MOST_FUEL)
                || !isWithin(height, 0, MOST_HEIGHT) || !isWithin(wet, 0, MOST_WET)) {
            return false;
        }
        ground.fuel[c] = fuel;
        ground.tall[c] = height;
        ground.damp[c] = wet;
        forgetFires();
        return true;
    }

    public int world() {
        if (worlds >= MOST_WORLDS) {
            return NONE;
        }
        int made = worlds;
        winds[made].copyFrom(winds[0]);
        fires[made].known = false;
        worlds = made + 1;
        return made;
    }

    public boolean wind(int w, int minute, int to, int force) {
        if (!hasWorld(w) || !isMinute(minute) || !isWithin(to, 0, DIRECTIONS - 1)
                || !isWithin(force, 0, MOST_FORCE)) {
            return false;
        }
        if (!winds[w].append(minute, to, force)) {
            return false;
        }
        fires[w].known = false;
        return true;
    }

    public boolean light(int c, int minute) {
        if (!ground.has(c) || !isMinute(minute) || ground.fuel[c] == 0 || ground.lit[c] <= minute) {
            return false;
        }
        ground.lit[c] = minute;
        forgetFires();
        return true;
    }

    public boolean not(int c, int minute) {
        if (!ground.has(c) || !isMinute(minute) || ground.unburnt[c] >= minute
                || ground.lit[c] <= minute) {
            return false;
        }
        ground.unburnt[c] = minute;
        forgetFires();
        return true;
    }

    public boolean drop(int c, int minute) {
        if (!ground.has(c) || !isMinute(minute) || !ground.addDrop(c, minute)) {
            return false;
        }
        forgetFires();
        return true;
    }

    public int burns(int w, int c) {
        if (!hasWorld(w) || !ground.has(c)) {
            return NONE;
        }
        return noneIfNever(fireOf(w).start[c]);
    }

    public int burnt(int w, int minute) {
        if (!hasWorld(w) || !isMinute(minute)) {
            return NONE;
        }
        return fireOf(w).cellsBy(minute, ground.size);
    }

    public int from(int w, int c) {
        if (!hasWorld(w) || !ground.has(c)) {
            return NONE;
        }
        return fireOf(w).source[c];
    }

    public boolean safe(int c) {
        if (!ground.has(c) || ground.isSafe[c]) {
            return false;
        }
        ground.isSafe[c] = true;
        return true;
    }

    public int crew(int c) {
        if (!ground.has(c)) {
            return NONE;
        }
        return crews.append(c);
    }

    public int out(int c, int minute) {
        if (!ground.has(c) || !isMinute(minute)) {
            return NONE;
        }
        for (int w = 0; w < worlds; w++) {
            if (!escape.leads(ground, fireOf(w), c, minute)) {
                return 0;
            }
        }
        return 1;
    }

    public int order(int k, int c, int minute) {
        if (!crews.has(k) || !ground.has(c) || !isMinute(minute)
                || ground.fuel[c] == 0 || crews.ordersOfAll >= MOST_ORDERS) {
            return NONE;
        }
        int leaves = Math.max(crews.free[k], minute);
        int comes = leaves + MINUTES_A_STEP * ground.stepsBetween(crews.place[k], c);
        int done = comes + MINUTES_A_FUEL * ground.fuel[c];
        if (done > END) {
            return NONE;
        }
        int cutBefore = ground.cut[c];
        ground.cut[c] = Math.min(cutBefore, done);
        if (!leavesWaysOut(k, c, leaves, comes, done)) {
            ground.cut[c] = cutBefore;
            return NO_WAY_OUT;
        }
        crews.send(k, c, done);
        forgetFires();
        return done;
    }

    public int look(int k, int what) {
        if (!crews.has(k)) {
            return NONE;
        }
        switch (what) {
            case 0: return crews.place[k];
            case 1: return crews.free[k];
            case 2: return crews.orders[k];
            default: return NONE;
        }
    }

    public boolean road(int c) {
        if (!ground.has(c) || ground.isRoad[c]) {
            return false;
        }
        ground.isRoad[c] = true;
        return true;
    }

    public boolean exit(int c) {
        if (!ground.has(c) || ground.isExit[c]) {
            return false;
        }
        ground.isExit[c] = true;
        return true;
    }

    public int village(int c, int cars, int rate) {
        if (!ground.has(c) || !isWithin(cars, 1, MOST_CARS) || !isWithin(rate, 1, MOST_RATE)) {
            return NONE;
        }
        return villages.append(c, cars, rate);
    }

    public int way(int v, int i) {
        if (!villages.has(v)) {
            return NONE;
        }
        ways.find(ground, villages.place[v]);
        return isWithin(i, 0, ways.length - 1) ? ways.row[i] : NONE;
    }

    public int last(int v) {
        if (!villages.has(v)) {
            return NONE;
        }
        ways.find(ground, villages.place[v]);
        if (ways.length == 0) {
            return NONE;
        }
        int behindFirst = villages.lastCarBehindFirst(v);
        int latest = END;
        for (int w = 0; w < worlds; w++) {
            int lastCar = ways.latestStart(fireOf(w));
            latest = Math.min(latest, lastCar == NEVER ? END : lastCar - behindFirst);
        }
        return latest < 0 ? NONE : latest;
    }

    public boolean maybe(int c) {
        return ground.has(c) && ground.fuel[c] > 0 && maybes.append(c);
    }

    public int plan(int k) {
        if (!isWithin(k, 0, MOST_MAYBES)) {
            return NONE;
        }
        int best = 0;
        int fewestBurnt = NEVER;
        // Smaller sets come first, and lower bits among them, so that only a true gain replaces.
        for (int cells = 0; cells <= Math.min(k, maybes.size); cells++) {
            for (int set = 0; set < (1 << maybes.size); set++) {
                if (Integer.bitCount(set) == cells) {
                    int burnt = worstBurntWith(set, fewestBurnt);
                    if (burnt < fewestBurnt) {
                        fewestBurnt = burnt;
                        best = set;
                    }
                }
            }
        }
        return best;
    }

    public int about(int c, int what) {
        if (!ground.has(c)) {
            return NONE;
        }
        switch (what) {
            case 0: return ground.fuel[c];
            case 1: return ground.tall[c];
            case 2: return ground.damp[c];
            case 3: return noneIfNever(ground.cut[c]);
            case 4: return ground.dropsOver[c];
            case 5: return ground.isSafe[c] ? 1 : 0;
            case 6: return ground.isRoad[c] ? 1 : 0;
            case 7: return ground.isExit[c] ? 1 : 0;
            case 8: return noneIfNever(ground.lit[c]);
            case 9: return ground.unburnt[c];
            default: return NONE;
        }
    }

    public int count(int what) {
        switch (what) {
            case 0: return ground.columns;
            case 1: return ground.rows;
            case 2: return worlds;
            case 3: return crews.size;
            case 4: return villages.size;
            case 5: return crews.ordersOfAll;
            case 6: return maybes.size;
            case 7: return cellsThatNeverBurn();
            default: return NONE;
        }
    }

    private void beginAnew(int columns, int rows) {
        ground.reset(columns, rows);
        crews.clear();
        villages.clear();
        maybes.size = 0;
        winds[0].size = 0;
        worlds = 1;
        forgetFires();
    }

    private void forgetFires() {
        for (int w = 0; w < MOST_WORLDS; w++) {
            fires[w].known = false;
        }
    }

    private Fire fireOf(int w) {
        Fire fire = fires[w];
        if (!fire.known) {
            fire.spread(ground, winds[w]);
        }
        return fire;
    }

    private boolean hasWorld(int w) {
        return w >= 0 && w < worlds;
    }

    /** Whether the order, whose cut stands in the ground already, leaves all crews a way out. */
    private boolean leavesWaysOut(int k, int c, int leaves, int comes, int done) {
        for (int w = 0; w < worlds; w++) {
            trial.spread(ground, winds[w]);
            if (!escape.leads(ground, trial, crews.place[k], leaves)
                    || !escape.leads(ground, trial, c, comes)
                    || !escape.leads(ground, trial, c, done)) {
                return false;
            }
            for (int other = 0; other < crews.size; other++) {
                if (other != k
                        && !escape.leads(ground, trial, crews.place[other], crews.free[other])) {
                    return false;
                }
            }
        }
        return true;
    }

    /** Cells burnt in the worst world with the set cut; any number from enough on if so many. */
    private int worstBurntWith(int set, int enough) {
        maybes.cut(ground, set);
        int worst = 0;
        for (int w = 0; w < worlds && worst < enough; w++) {
            trial.spread(ground, winds[w]);
            worst = Math.max(worst, trial.cellsBy(END, ground.size));
        }
        maybes.uncut(ground, set);
        return worst;
    }

    private int cellsThatNeverBurn() {
        int cells = 0;
        for (int c = 0; c < ground.size; c++) {
            boolean burnsSomewhere = false;
            for (int w = 0; w < worlds && !burnsSomewhere; w++) {
                burnsSomewhere = fireOf(w).start[c] != NEVER;
            }
            if (!burnsSomewhere) {
                cells++;
            }
        }
        return cells;
    }

    private static boolean isWithin(int number, int least, int most) {
        return number >= least && number <= most;
    }

    private static boolean isMinute(int minute) {
        return minute >= 0 && minute <= END;
    }

    private static int noneIfNever(int minute) {
        return minute == NEVER ? NONE : minute;
    }

    /** The hills, with all that is told of each cell. */
    private static final class Ground {
        int columns;
        int rows;
        int size;
        final int[] fuel = new int[MOST_CELLS];
        final int[] tall = new int[MOST_CELLS];
        final int[] damp = new int[MOST_CELLS];
        /** When the fire was told to begin, or NEVER. */
        final int[] lit = new int[MOST_CELLS];
        /** The latest minute at which it was told not to burn, or NONE. */
        final int[] unburnt = new int[MOST_CELLS];
        /** From when on it is cut, or NEVER. */
        final int[] cut = new int[MOST_CELLS];
        final boolean[] isSafe = new boolean[MOST_CELLS];
        final boolean[] isRoad = new boolean[MOST_CELLS];
        final boolean[] isExit = new boolean[MOST_CELLS];
        /** The cell beside, by cell and direction, or NONE: rows and columns without division. */
        final int[] beside = new int[MOST_CELLS * DIRECTIONS];
        final int[] rowOf = new int[MOST_CELLS];
        int drops;
        final int[] dropsOver = new int[MOST_CELLS];
        /** The drops over one cell are a chain, so that no other cell's are looked through. */
        final int[] newestDrop = new int[MOST_CELLS];
        final int[] dropBefore = new int[MOST_DROPS];
        final int[] dropMinute = new int[MOST_DROPS];

        void reset(int newColumns, int newRows) {
            columns = newColumns;
            rows = newRows;
            size = newColumns * newRows;
            drops = 0;
            Arrays.fill(fuel, FIRST_FUEL);
            Arrays.fill(tall, 0);
            Arrays.fill(damp, 0);
            Arrays.fill(lit, NEVER);
            Arrays.fill(unburnt, NONE);
            Arrays.fill(cut, NEVER);
            Arrays.fill(dropsOver, 0);
            Arrays.fill(newestDrop, NONE);
            for (int c = 0; c < MOST_CELLS; c++) {
                isSafe[c] = false;
                isRoad[c] = false;
                isExit[c] = false;
            }
            for (int row = 0; row < rows; row++) {
                for (int column = 0; column < columns; column++) {
                    layCell(row, column);
                }
            }
        }

        private void layCell(int row, int column) {
            int c = row * columns + column;
            rowOf[c] = row;
            for (int d = 0; d < DIRECTIONS; d++) {
                int toRow = row + ROW_STEP[d];
                int toColumn = column + COLUMN_STEP[d];
                boolean inside = isWithin(toRow, 0, rows - 1) && isWithin(toColumn, 0, columns - 1);
                beside[c * DIRECTIONS + d] = inside ? toRow * columns + toColumn : NONE;
            }
        }

        boolean has(int c) {
            return c >= 0 && c < size;
        }

        boolean addDrop(int c, int minute) {
            if (drops >= MOST_DROPS) {
                return false;
            }
            dropMinute[drops] = minute;
            dropBefore[drops] = newestDrop[c];
            newestDrop[c] = drops;
            dropsOver[c]++;
            drops++;
            return true;
        }

        int workInto(int c, int direction, int begin) {
            int work = 100 * fuel[c] + 10 * damp[c] + 150 * dropsBy(begin, c);
            boolean onSlant = (direction & 1) == 1;
            return onSlant ? work * 7 / 5 : work;
        }

        private int dropsBy(int minute, int c) {
            int found = 0;
            int drop = newestDrop[c];
            for (int i = 0; i < dropsOver[c] && drop != NONE; i++) {
                if (dropMinute[drop] <= minute) {
                    found++;
                }
                drop = dropBefore[drop];
            }
            return found;
        }

        int slopeSpeed(int c, int to) {
            int rise = tall[to] - tall[c];
            return rise > 0 ? 3 * rise : rise;
        }

        int stepsBetween(int a, int b) {
            int columnOfA = a - rowOf[a] * columns;
            int columnOfB = b - rowOf[b] * columns;
            return Math.abs(rowOf[a] - rowOf[b]) + Math.abs(columnOfA - columnOfB);
        }
    }

    /** The winds of one world, by the minutes from which they blow. */
    private static final class Winds {
        int size;
        final int[] since = new int[MOST_WINDS];
        final int[] to = new int[MOST_WINDS];
        final int[] force = new int[MOST_WINDS];

        boolean append(int minute, int direction, int strength) {
            if (size >= MOST_WINDS || (size > 0 && minute <= since[size - 1])) {
                return false;
            }
            since[size] = minute;
            to[size] = direction;
            force[size] = strength;
            size++;
            return true;
        }

        void copyFrom(Winds other) {
            size = other.size;
            System.arraycopy(other.since, 0, since, 0, MOST_WINDS);
            System.arraycopy(other.to, 0, to, 0, MOST_WINDS);
            System.arraycopy(other.force, 0, force, 0, MOST_WINDS);
        }

        /** The first minute at which the work is done that begins at a minute. */
        int workDone(int begin, int work, int direction, int slopeSpeed) {
            int minute = begin;
            int left = work;
            // Wind -1 is the calm ahead of the first.
            for (int i = -1; i < size; i++) {
                int until = i + 1 < size ? since[i + 1] : NEVER;
                if (until > minute) {
                    int speed = Math.max(1, 10 + push(i, direction) + slopeSpeed);
                    int doable = speed * (until - minute);
                    if (left <= doable) {
                        return minute + (left + speed - 1) / speed;
                    }
                    left -= doable;
                    minute = until;
                }
            }
            return NEVER;
        }

        private int push(int i, int direction) {
            if (i < 0) {
                return 0;
            }
            int turns = (to[i] - direction) & (DIRECTIONS - 1);
            return force[i] * PUSH_BY_TURNS[Math.min(turns, DIRECTIONS - turns)];
        }
    }

    /** When each cell burns in one world, and from where the fire came. */
    private static final class Fire {
        boolean known;
        /** From which minute on a cell burns, or NEVER. */
        final int[] start = new int[MOST_CELLS];
        final int[] source = new int[MOST_CELLS];
        private final boolean[] gone = new boolean[MOST_CELLS];

        /** Lets the cells go on in the order in which they burn, so that each goes on once. */
        void spread(Ground ground, Winds winds) {
            for (int c = 0; c < ground.size; c++) {
                start[c] = ground.lit[c];
                source[c] = NONE;
                gone[c] = false;
            }
            for (int i = 0; i < ground.size; i++) {
                int c = nextToGo(ground.size);
                if (c == NONE) {
                    break;
                }
                gone[c] = true;
                goOn(ground, winds, c);
            }
            known = true;
        }

        private int nextToGo(int size) {
            int next = NONE;
            int earliest = NEVER;
            for (int c = 0; c < size; c++) {
                if (start[c] < earliest && !gone[c]) {
                    earliest = start[c];
                    next = c;
                }
            }
            return next;
        }

        private void goOn(Ground ground, Winds winds, int c) {
            int begin = start[c];
            for (int d = 0; d < DIRECTIONS; d++) {
                int to = ground.beside[c * DIRECTIONS + d];
                if (to != NONE && !gone[to] && ground.fuel[to] > 0) {
                    int work = ground.workInto(to, d, begin);
                    int done = winds.workDone(begin, work, d, ground.slopeSpeed(c, to));
                    int minute = Math.max(done, ground.unburnt[to] + 1);
                    if (minute <= END && minute < ground.cut[to]) {
                        reach(to, minute, c);
                    }
                }
            }
        }

        private void reach(int c, int minute, int comingFrom) {
            if (minute < start[c]) {
                start[c] = minute;
                source[c] = comingFrom;
            } else if (minute == start[c] && comingFrom < source[c]) {
                // Where the fire began at that minute, the source is NONE and stays so.
                source[c] = comingFrom;
            }
        }

        int cellsBy(int minute, int size) {
            int cells = 0;
            for (int c = 0; c < size; c++) {
                if (start[c] <= minute) {
                    cells++;
                }
            }
            return cells;
        }
    }

    /** Looks for walks to safe cells ahead of a fire. */
    private static final class Escape {
        private final int[] queue = new int[MOST_CELLS];
        private final int[] comes = new int[MOST_CELLS];

        boolean leads(Ground ground, Fire fire, int c, int minute) {
            if (minute >= fire.start[c]) {
                return false;
            }
            Arrays.fill(comes, NEVER);
            queue[0] = c;
            comes[c] = minute;
            int queued = 1;
            // Each cell is queued once, at its earliest minute: a later one opens no other walk.
            for (int i = 0; i < queued && i < MOST_CELLS; i++) {
                if (ground.isSafe[queue[i]]) {
                    return true;
                }
                queued = queueBeside(ground, fire, queue[i], queued);
            }
            return false;
        }

        private int queueBeside(Ground ground, Fire fire, int c, int queued) {
            int end = queued;
            int minute = comes[c] + MINUTES_A_STEP;
            for (int d = 0; d < DIRECTIONS; d += 2) {
                int to = ground.beside[c * DIRECTIONS + d];
                if (to != NONE && comes[to] == NEVER && minute < fire.start[to]
                        && end < MOST_CELLS) {
                    comes[to] = minute;
                    queue[end] = to;
                    end++;
                }
            }
            return end;
        }
    }

    /** The crews: where each is free, from when on, and how many orders it was given. */
    private static final class Crews {
        int size;
        int ordersOfAll;
        final int[] place = new int[MOST_CREWS];
        final int[] free = new int[MOST_CREWS];
        final int[] orders = new int[MOST_CREWS];

        void clear() {
            size = 0;
            ordersOfAll = 0;
        }

        boolean has(int k) {
            return k >= 0 && k < size;
        }

        int append(int c) {
            if (size >= MOST_CREWS) {
                return NONE;
            }
            place[size] = c;
            free[size] = 0;
            orders[size] = 0;
            size++;
            return size - 1;
        }

        void send(int k, int c, int done) {
            place[k] = c;
            free[k] = done;
            orders[k]++;
            ordersOfAll++;
        }
    }

    private static final class Villages {
        int size;
        final int[] place = new int[MOST_VILLAGES];
        private final int[] carsOf = new int[MOST_VILLAGES];
        private final int[] rateOf = new int[MOST_VILLAGES];

        void clear() {
            size = 0;
        }

        boolean has(int v) {
            return v >= 0 && v < size;
        }

        int append(int c, int cars, int rate) {
            if (size >= MOST_VILLAGES) {
                return NONE;
            }
            place[size] = c;
            carsOf[size] = cars;
            rateOf[size] = rate;
            size++;
            return size - 1;
        }

        int lastCarBehindFirst(int v) {
            int rate = Math.max(1, rateOf[v]);
            return (carsOf[v] - 1) / rate;
        }
    }

    /** Finds the way by roads from a cell to an exit. */
    private static final class Ways {
        /** How many cells the way found has; 0: there is none. */
        int length;
        final int[] row = new int[MOST_CELLS + 1];
        private final int[] toExit = new int[MOST_CELLS];
        private final int[] queue = new int[MOST_CELLS];

        void find(Ground ground, int c) {
            measure(ground);
            int steps = ground.isExit[c] ? 0 : 1 + toExit[nearestBeside(ground, c)];
            length = 0;
            if (steps > ground.size) {
                return;
            }
            row[0] = c;
            for (int i = 1; i <= steps; i++) {
                row[i] = nearestBeside(ground, row[i - 1]);
            }
            length = steps + 1;
        }

        /** Steps to the nearest exit from each road and exit, NEVER from all else. */
        private void measure(Ground ground) {
            Arrays.fill(toExit, NEVER);
            int queued = 0;
            for (int c = 0; c < ground.size; c++) {
                if (ground.isExit[c]) {
                    toExit[c] = 0;
                    queue[queued] = c;
                    queued++;
                }
            }
            for (int i = 0; i < queued && i < MOST_CELLS; i++) {
                queued = queueRoadsBeside(ground, queue[i], queued);
            }
        }

        private int queueRoadsBeside(Ground ground, int c, int queued) {
            int end = queued;
            for (int d = 0; d < DIRECTIONS; d += 2) {
                int to = ground.beside[c * DIRECTIONS + d];
                if (to != NONE && ground.isRoad[to] && toExit[to] == NEVER && end < MOST_CELLS) {
                    toExit[to] = toExit[c] + 1;
                    queue[end] = to;
                    end++;
                }
            }
            return end;
        }

        /** Of the cells beside, one with fewest steps to an exit; of like ones the lowest. */
        private int nearestBeside(Ground ground, int c) {
            int nearest = NONE;
            for (int d = 0; d < DIRECTIONS; d += 2) {
                int to = ground.beside[c * DIRECTIONS + d];
                if (to != NONE && (nearest == NONE || toExit[to] < toExit[nearest]
                        || (toExit[to] == toExit[nearest] && to < nearest))) {
                    nearest = to;
                }
            }
            // Hills have two rows at least, so that a cell is always beside; c itself guards it.
            return nearest == NONE ? c : nearest;
        }

        /** The latest minute at which a car can begin the way found ahead of a fire, or NEVER. */
        int latestStart(Fire fire) {
            int latest = NEVER;
            for (int i = 0; i < length; i++) {
                int burning = fire.start[row[i]];
                if (burning != NEVER) {
                    latest = Math.min(latest, burning - 1 - i);
                }
            }
            return latest;
        }
    }

    /** The cells told for the plan, in the order in which they were told. */
    private static final class Maybes {
        int size;
        private final int[] place = new int[MOST_MAYBES];
        private final int[] cutBefore = new int[MOST_MAYBES];

        boolean append(int c) {
            if (size >= MOST_MAYBES) {
                return false;
            }
            for (int i = 0; i < size; i++) {
                if (place[i] == c) {
                    return false;
                }
            }
            place[size] = c;
            size++;
            return true;
        }

        void cut(Ground ground, int set) {
            for (int i = 0; i < size; i++) {
                if ((set >> i & 1) == 1) {
                    cutBefore[i] = ground.cut[place[i]];
                    ground.cut[place[i]] = AHEAD_OF_ALL;
                }
            }
        }

        void uncut(Ground ground, int set) {
            for (int i = 0; i < size; i++) {
                if ((set >> i & 1) == 1) {
                    ground.cut[place[i]] = cutBefore[i];
                }
            }
        }
    }
}
