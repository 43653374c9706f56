import java.util.ArrayList;
import java.util.Arrays;
import java.util.List;

/**
 * Long made-up runs of calls, always the same ones, against a second model that is as plain as can
 * be: the fire goes minute by minute, the last minute is tried out, the ways are all rows of cells.
 */
public final class ModelTest {
    private static final int RUNS = 60;
    private static final int CALLS = 512;
    private static int wrong = 0;
    private static long seed;

    public static void main(String[] args) {
        int runs = args.length > 0 ? Integer.parseInt(args[0]) : RUNS;
        long[] answers = new long[25];
        long[] refused = new long[25];
        for (int run = 0; run < runs && wrong < 20; run++) {
            seed = 977 + 7919L * run;
            run(run, answers, refused);
        }
        for (int method = 0; method < 25; method++) {
            // A run of calls that never meets both answers would test little.
            if (method != 7 && runs >= RUNS && (answers[method] == 0 || refused[method] == 0)) {
                wrong++;
                System.out.println("method " + method + ": " + answers[method] + " answered, "
                    + refused[method] + " refused");
            }
        }
        System.out.println(wrong == 0 ? "ModelTest: all as due" : "ModelTest: " + wrong + " wrong");
        if (wrong != 0) {
            System.exit(1);
        }
    }

    private static int random(int bound) {
        seed = seed * 6364136223846793005L + 1442695040888963407L;
        return (int) ((seed >>> 33) % bound);
    }

    /** A number from 0 below a bound, but now and then one beside it, and seldom a far one. */
    private static int number(int bound) {
        int kind = random(60);
        if (kind == 0) {
            return -1;
        }
        if (kind == 1) {
            return bound;
        }
        if (kind == 2 && random(4) == 0) {
            return random(2) == 0 ? Integer.MIN_VALUE : Integer.MAX_VALUE;
        }
        return random(bound);
    }

    private static int minute(int scale) {
        return random(25) == 0 ? number(5001) : number(scale);
    }

    private static void run(int run, long[] answers, long[] refused) {
        FireLines x = new FireLines();
        Model m = new Model();
        StringBuilder story = new StringBuilder();
        int scale = 20 + random(300);
        int changes = 0;
        for (int call = 0; call < CALLS; call++) {
            int method = changes < 60 ? random(25) : 7 + random(18);
            if (method == 0 && random(3) != 0 && call > 0) {
                method = 5;
            }
            int a = 0;
            int b = 0;
            int c = 0;
            int d = 0;
            int cell = number(m.w * m.h);
            switch (method) {
                case 0: a = number(9); b = number(9); changes = 0; break;
                case 1: a = cell; b = number(5); c = number(10); d = random(3) == 0 ? number(100) : 0; break;
                case 2: if (random(3) != 0) { method = 8; a = 0; b = cell; } break;
                case 3: a = number(m.winds.size()); b = number(scale); c = number(8); d = number(10); break;
                case 4: a = cell; b = minute(scale); if (random(3) == 0) { method = 8; a = 0; b = cell; } break;
                case 5: a = cell; b = minute(scale); break;
                case 6: a = cell; b = minute(scale); break;
                case 7: method = 8; a = number(m.winds.size()); b = cell; break; // burns twice as often
                case 8: a = number(m.winds.size()); b = cell; break;
                case 9: a = number(m.winds.size()); b = minute(scale); break;
                case 10: a = number(m.winds.size()); b = cell; break;
                case 11: a = cell; if (random(4) != 0) { method = 13; b = minute(scale); } break;
                case 12: a = cell; if (random(4) != 0) { method = 15; a = number(6); b = random(3); } break;
                case 13: a = cell; b = minute(scale); break;
                case 14: a = number(Math.max(1, m.crewCell.size())); b = cell; c = minute(scale / 3 + 1); break;
                case 15: a = number(6); b = number(3); break;
                case 16: a = cell; break;
                case 17: a = cell; if (random(3) != 0) { method = 16; } break;
                case 18: a = cell; b = number(501); c = number(51); if (random(2) == 0) { b = random(30) + 1; } break;
                case 19: a = number(6); b = number(6); break;
                case 20: a = number(6); break;
                case 21: a = cell; break;
                case 22: if (random(5) == 0) { a = number(7); } else { method = 23; a = cell; b = number(10); } break;
                case 23: a = cell; b = number(10); break;
                default: a = number(8); break;
            }
            changes += method < 7 ? 1 : 0;
            long got = ask(x, method, a, b, c, d);
            long want = m.ask(method, a, b, c, d);
            if (want == FireLines.NONE || want == 0) {
                refused[method]++;
            } else {
                answers[method]++;
            }
            story.append(method).append(Arrays.toString(new int[] {a, b, c, d})).append(" -> ").append(want).append('\n');
            if (got != want) {
                wrong++;
                System.out.println("run " + run + ", call " + call + ", method " + method + " ("
                    + a + ", " + b + ", " + c + ", " + d + ") answered " + got + ", due is " + want);
                if (wrong == 1) {
                    System.out.println(story);
                }
                return;
            }
            if (call % 64 == 63 && !sameAll(x, m, run, call)) {
                System.out.println(story);
                return;
            }
        }
    }

    private static boolean sameAll(FireLines x, Model m, int run, int call) {
        int before = wrong;
        for (int w = -1; w <= 4; w++) {
            for (int c = 0; c <= m.w * m.h; c++) {
                same(run, call, "burns", x.burns(w, c), m.burns(w, c));
                same(run, call, "from", x.from(w, c), m.from(w, c));
            }
        }
        for (int c = 0; c <= m.w * m.h; c++) {
            for (int what = 0; what <= 10; what++) {
                same(run, call, "about " + what, x.about(c, what), m.about(c, what));
            }
            same(run, call, "out", x.out(c, 10), m.out(c, 10));
        }
        for (int what = 0; what <= 8; what++) {
            same(run, call, "count " + what, x.count(what), m.count(what));
        }
        for (int v = 0; v <= 6; v++) {
            same(run, call, "last", x.last(v), m.last(v));
            for (int i = 0; i < 12; i++) {
                same(run, call, "way", x.way(v, i), m.way(v, i));
            }
            for (int what = 0; what < 4; what++) {
                same(run, call, "look", x.look(v, what), m.look(v, what));
            }
        }
        return wrong == before;
    }

    private static void same(int run, int call, String what, int got, int want) {
        if (got != want) {
            wrong++;
            System.out.println("run " + run + " behind call " + call + ": " + what + " answered " + got
                + ", due is " + want);
        }
    }

    private static long ask(FireLines x, int method, int a, int b, int c, int d) {
        switch (method) {
            case 0: return x.hills(a, b) ? 1 : 0;
            case 1: return x.cell(a, b, c, d) ? 1 : 0;
            case 2: return x.world();
            case 3: return x.wind(a, b, c, d) ? 1 : 0;
            case 4: return x.light(a, b) ? 1 : 0;
            case 5: return x.not(a, b) ? 1 : 0;
            case 6: return x.drop(a, b) ? 1 : 0;
            case 8: return x.burns(a, b);
            case 9: return x.burnt(a, b);
            case 10: return x.from(a, b);
            case 11: return x.safe(a) ? 1 : 0;
            case 12: return x.crew(a);
            case 13: return x.out(a, b);
            case 14: return x.order(a, b, c);
            case 15: return x.look(a, b);
            case 16: return x.road(a) ? 1 : 0;
            case 17: return x.exit(a) ? 1 : 0;
            case 18: return x.village(a, b, c);
            case 19: return x.way(a, b);
            case 20: return x.last(a);
            case 21: return x.maybe(a) ? 1 : 0;
            case 22: return x.plan(a);
            case 23: return x.about(a, b);
            default: return x.count(a);
        }
    }

    private static final class Model {
        private static final int NONE = -1;
        private static final int NEVER = 99999;
        int w = 6;
        int h = 6;
        int[] fuel;
        int[] height;
        int[] wet;
        int[] lit;
        int[] not;
        int[] cut;
        boolean[] safe;
        boolean[] road;
        boolean[] exit;
        List<int[]> drops;
        List<List<int[]>> winds;
        List<Integer> crewCell;
        List<Integer> crewFree;
        List<Integer> crewOrders;
        List<int[]> villages;
        List<Integer> maybes;
        int[][] known;
        int[][] knownFrom;

        Model() {
            anew(6, 6);
        }

        private void anew(int newW, int newH) {
            w = newW;
            h = newH;
            int n = w * h;
            fuel = new int[n];
            Arrays.fill(fuel, 2);
            height = new int[n];
            wet = new int[n];
            lit = new int[n];
            Arrays.fill(lit, NEVER);
            not = new int[n];
            Arrays.fill(not, NONE);
            cut = new int[n];
            Arrays.fill(cut, NEVER);
            safe = new boolean[n];
            road = new boolean[n];
            exit = new boolean[n];
            drops = new ArrayList<>();
            winds = new ArrayList<>();
            winds.add(new ArrayList<>());
            crewCell = new ArrayList<>();
            crewFree = new ArrayList<>();
            crewOrders = new ArrayList<>();
            villages = new ArrayList<>();
            maybes = new ArrayList<>();
            forget();
        }

        private void forget() {
            known = new int[4][];
            knownFrom = new int[4][];
        }

        private boolean isCell(int c) {
            return c >= 0 && c < w * h;
        }

        private boolean isMinute(int m) {
            return 0 <= m && m <= 5000;
        }

        private boolean isWorld(int i) {
            return i >= 0 && i < winds.size();
        }

        private int beside(int c, int d) {
            int row = c / w + new int[] {-1, -1, 0, 1, 1, 1, 0, -1}[d];
            int column = c % w + new int[] {0, 1, 1, 1, 0, -1, -1, -1}[d];
            return row < 0 || row >= h || column < 0 || column >= w ? NONE : row * w + column;
        }

        private int speed(List<int[]> wind, int c, int n, int d, int minute) {
            int to = 0;
            int force = 0;
            for (int[] each : wind) {
                if (each[0] <= minute) {
                    to = each[1];
                    force = each[2];
                }
            }
            int turns = Math.abs(to - d);
            if (turns > 4) {
                turns = 8 - turns;
            }
            int speed = 10;
            if (turns == 0) {
                speed += 6 * force;
            } else if (turns == 1) {
                speed += 4 * force;
            } else if (turns == 3) {
                speed -= force;
            } else if (turns == 4) {
                speed -= 2 * force;
            }
            if (height[n] > height[c]) {
                speed += 3 * (height[n] - height[c]);
            } else {
                speed -= height[c] - height[n];
            }
            return speed < 1 ? 1 : speed;
        }

        private int work(int n, int d, int begin) {
            int work = 100 * fuel[n] + 10 * wet[n];
            for (int[] drop : drops) {
                if (drop[0] == n && drop[1] <= begin) {
                    work += 150;
                }
            }
            return d % 2 == 1 ? (int) Math.floor(work * 7 / 5) : work;
        }

        /** Minutes from which cells burn; the cells they burn from are put into sources. */
        private int[] fire(List<int[]> wind, int[] cuts, int[] sources) {
            int n = w * h;
            int[] burns = new int[n];
            Arrays.fill(burns, NEVER);
            Arrays.fill(sources, NONE);
            int[][] left = new int[n][8];
            for (int minute = 0; minute <= 5000; minute++) {
                List<Integer> fresh = new ArrayList<>();
                for (int c = 0; c < n; c++) {
                    if (burns[c] == NEVER) {
                        int source = reachedFrom(c, minute, burns, left, cuts);
                        if (lit[c] == minute || source != NONE) {
                            fresh.add(c);
                            sources[c] = lit[c] == minute ? NONE : source;
                        }
                    }
                }
                for (int c : fresh) {
                    burns[c] = minute;
                    for (int d = 0; d < 8; d++) {
                        int to = beside(c, d);
                        left[c][d] = to == NONE ? 0 : work(to, d, minute);
                    }
                }
                boolean going = false;
                for (int c = 0; c < n; c++) {
                    going |= lit[c] != NEVER && lit[c] > minute;
                    for (int d = 0; d < 8 && burns[c] != NEVER; d++) {
                        int to = beside(c, d);
                        if (to != NONE && burns[to] == NEVER && fuel[to] > 0 && cuts[to] > minute) {
                            left[c][d] -= speed(wind, c, to, d, minute);
                            going = true;
                        }
                    }
                }
                if (!going) {
                    break;
                }
            }
            return burns;
        }

        private int reachedFrom(int c, int minute, int[] burns, int[][] left, int[] cuts) {
            if (fuel[c] == 0 || cuts[c] <= minute || not[c] >= minute) {
                return NONE;
            }
            int source = NONE;
            for (int d = 0; d < 8; d++) {
                int from = beside(c, (d + 4) % 8);
                if (from != NONE && burns[from] < minute && left[from][d] <= 0
                        && (source == NONE || from < source)) {
                    source = from;
                }
            }
            return source;
        }

        private int[] known(int world) {
            if (known[world] == null) {
                knownFrom[world] = new int[w * h];
                known[world] = fire(winds.get(world), cut, knownFrom[world]);
            }
            return known[world];
        }

        int burns(int world, int c) {
            if (!isWorld(world) || !isCell(c)) {
                return NONE;
            }
            int minute = known(world)[c];
            return minute == NEVER ? NONE : minute;
        }

        int from(int world, int c) {
            if (!isWorld(world) || !isCell(c)) {
                return NONE;
            }
            known(world);
            return knownFrom[world][c];
        }

        /** All cells in which the crew can be behind so many steps, step by step. */
        private boolean wayOut(int[] burns, int c, int minute) {
            boolean[] in = new boolean[w * h];
            in[c] = minute < burns[c];
            for (int step = 0; step <= w * h; step++) {
                boolean[] next = new boolean[w * h];
                for (int here = 0; here < w * h; here++) {
                    if (in[here] && safe[here]) {
                        return true;
                    }
                    for (int d = 0; d < 8 && in[here]; d += 2) {
                        int to = beside(here, d);
                        if (to != NONE && minute + 4 * (step + 1) < burns[to]) {
                            next[to] = true;
                        }
                    }
                }
                in = next;
            }
            return false;
        }

        int out(int c, int minute) {
            if (!isCell(c) || !isMinute(minute)) {
                return NONE;
            }
            for (int world = 0; world < winds.size(); world++) {
                if (!wayOut(known(world), c, minute)) {
                    return 0;
                }
            }
            return 1;
        }

        private int order(int k, int c, int minute) {
            if (k < 0 || k >= crewCell.size() || !isCell(c) || !isMinute(minute) || fuel[c] == 0) {
                return NONE;
            }
            int all = 0;
            for (int each : crewOrders) {
                all += each;
            }
            int at = crewCell.get(k);
            int begin = Math.max(minute, crewFree.get(k));
            int there = begin + 4 * (Math.abs(at / w - c / w) + Math.abs(at % w - c % w));
            int done = there + 5 * fuel[c];
            if (all == 60 || done > 5000) {
                return NONE;
            }
            int[] cuts = cut.clone();
            cuts[c] = Math.min(cuts[c], done);
            for (List<int[]> wind : winds) {
                int[] burns = fire(wind, cuts, new int[w * h]);
                boolean fine = wayOut(burns, at, begin) && wayOut(burns, c, there) && wayOut(burns, c, done);
                for (int j = 0; j < crewCell.size(); j++) {
                    fine &= j == k || wayOut(burns, crewCell.get(j), crewFree.get(j));
                }
                if (!fine) {
                    return -2;
                }
            }
            cut = cuts;
            crewCell.set(k, c);
            crewFree.set(k, done);
            crewOrders.set(k, crewOrders.get(k) + 1);
            forget();
            return done;
        }

        int look(int k, int what) {
            if (k < 0 || k >= crewCell.size() || what < 0 || what > 2) {
                return NONE;
            }
            return what == 0 ? crewCell.get(k) : what == 1 ? crewFree.get(k) : crewOrders.get(k);
        }

        /** The least row of just so many steps from a cell to an exit, for more and more steps. */
        private int[] wayOf(int village) {
            int[][] rows = new int[w * h][];
            for (int c = 0; c < w * h; c++) {
                rows[c] = exit[c] ? new int[] {c} : null;
            }
            for (int steps = 0; steps <= w * h; steps++) {
                if (rows[village] != null) {
                    return rows[village];
                }
                int[][] next = new int[w * h][];
                for (int c = 0; c < w * h; c++) {
                    for (int d = 0; d < 8; d += 2) {
                        int to = beside(c, d);
                        if (to != NONE && rows[to] != null && (steps == 0 || road[to])) {
                            int[] row = new int[steps + 2];
                            row[0] = c;
                            System.arraycopy(rows[to], 0, row, 1, steps + 1);
                            if (next[c] == null || Arrays.compare(row, next[c]) < 0) {
                                next[c] = row;
                            }
                        }
                    }
                }
                rows = next;
            }
            return null;
        }

        int way(int v, int i) {
            if (v < 0 || v >= villages.size()) {
                return NONE;
            }
            int[] row = wayOf(villages.get(v)[0]);
            return row == null || i < 0 || i >= row.length ? NONE : row[i];
        }

        int last(int v) {
            if (v < 0 || v >= villages.size()) {
                return NONE;
            }
            int[] row = wayOf(villages.get(v)[0]);
            for (int first = 5000; first >= 0 && row != null; first--) {
                int lastCar = first;
                for (int cars = villages.get(v)[1]; cars > villages.get(v)[2]; cars -= villages.get(v)[2]) {
                    lastCar++;
                }
                boolean fine = true;
                for (int world = 0; world < winds.size(); world++) {
                    for (int i = 0; i < row.length; i++) {
                        fine &= lastCar + i < known(world)[row[i]];
                    }
                }
                if (fine) {
                    return first;
                }
            }
            return NONE;
        }

        private int plan(int k) {
            if (k < 0 || k > 6) {
                return NONE;
            }
            int best = NONE;
            int bestBurnt = NEVER;
            for (int set = 0; set < 1 << maybes.size(); set++) {
                if (Integer.bitCount(set) <= k) {
                    int[] cuts = cut.clone();
                    for (int i = 0; i < maybes.size(); i++) {
                        if ((set & 1 << i) != 0) {
                            cuts[maybes.get(i)] = 0;
                        }
                    }
                    int worst = 0;
                    for (List<int[]> wind : winds) {
                        int burnt = 0;
                        for (int minute : fire(wind, cuts, new int[w * h])) {
                            burnt += minute <= 5000 ? 1 : 0;
                        }
                        worst = Math.max(worst, burnt);
                    }
                    if (worst < bestBurnt
                            || worst == bestBurnt && Integer.bitCount(set) < Integer.bitCount(best)) {
                        best = set;
                        bestBurnt = worst;
                    }
                }
            }
            return best;
        }

        int about(int c, int what) {
            if (!isCell(c)) {
                return NONE;
            }
            int over = 0;
            for (int[] drop : drops) {
                over += drop[0] == c ? 1 : 0;
            }
            int[] all = {fuel[c], height[c], wet[c], cut[c] == NEVER ? NONE : cut[c], over, safe[c] ? 1 : 0,
                road[c] ? 1 : 0, exit[c] ? 1 : 0, lit[c] == NEVER ? NONE : lit[c], not[c]};
            return what < 0 || what > 9 ? NONE : all[what];
        }

        int count(int what) {
            int orders = 0;
            for (int each : crewOrders) {
                orders += each;
            }
            int never = 0;
            for (int c = 0; c < w * h; c++) {
                boolean burns = false;
                for (int world = 0; world < winds.size(); world++) {
                    burns |= burns(world, c) != NONE;
                }
                never += burns ? 0 : 1;
            }
            int[] all = {w, h, winds.size(), crewCell.size(), villages.size(), orders, maybes.size(), never};
            return what < 0 || what > 7 ? NONE : all[what];
        }

        private boolean wind(int world, int minute, int to, int force) {
            if (!isWorld(world) || !isMinute(minute) || to < 0 || to > 7 || force < 0 || force > 9) {
                return false;
            }
            List<int[]> row = winds.get(world);
            if (row.size() == 8 || !row.isEmpty() && row.get(row.size() - 1)[0] >= minute) {
                return false;
            }
            row.add(new int[] {minute, to, force});
            forget();
            return true;
        }

        private boolean mark(boolean[] marks, int c) {
            if (!isCell(c) || marks[c]) {
                return false;
            }
            marks[c] = true;
            return true;
        }

        private boolean change(int method, int a, int b, int c, int d) {
            forget();
            switch (method) {
                case 0:
                    if (a < 2 || a > 8 || b < 2 || b > 8) {
                        return false;
                    }
                    anew(a, b);
                    return true;
                case 1:
                    if (!isCell(a) || b < 0 || b > 4 || c < 0 || c > 9 || d < 0 || d > 99) {
                        return false;
                    }
                    fuel[a] = b;
                    height[a] = c;
                    wet[a] = d;
                    return true;
                case 3:
                    return wind(a, b, c, d);
                case 4:
                    if (!isCell(a) || !isMinute(b) || fuel[a] == 0 || lit[a] <= b) {
                        return false;
                    }
                    lit[a] = b;
                    return true;
                case 5:
                    if (!isCell(a) || !isMinute(b) || not[a] >= b || lit[a] <= b) {
                        return false;
                    }
                    not[a] = b;
                    return true;
                default:
                    return isCell(a) && isMinute(b) && drops.size() < 40 && drops.add(new int[] {a, b});
            }
        }

        long ask(int method, int a, int b, int c, int d) {
            switch (method) {
                case 0: case 1: case 3: case 4: case 5: case 6:
                    return change(method, a, b, c, d) ? 1 : 0;
                case 2:
                    if (winds.size() == 4) {
                        return NONE;
                    }
                    winds.add(new ArrayList<>(winds.get(0)));
                    return winds.size() - 1;
                case 8:
                    return burns(a, b);
                case 9:
                    if (!isWorld(a) || !isMinute(b)) {
                        return NONE;
                    }
                    int burnt = 0;
                    for (int minute : known(a)) {
                        burnt += minute <= b ? 1 : 0;
                    }
                    return burnt;
                case 10: return from(a, b);
                case 11: return mark(safe, a) ? 1 : 0;
                case 12:
                    if (!isCell(a) || crewCell.size() == 6) {
                        return NONE;
                    }
                    crewCell.add(a);
                    crewFree.add(0);
                    crewOrders.add(0);
                    return crewCell.size() - 1;
                case 13: return out(a, b);
                case 14: return order(a, b, c);
                case 15: return look(a, b);
                case 16: return mark(road, a) ? 1 : 0;
                case 17: return mark(exit, a) ? 1 : 0;
                case 18:
                    if (!isCell(a) || b < 1 || b > 500 || c < 1 || c > 50 || villages.size() == 6) {
                        return NONE;
                    }
                    villages.add(new int[] {a, b, c});
                    return villages.size() - 1;
                case 19: return way(a, b);
                case 20: return last(a);
                case 21: return isCell(a) && fuel[a] > 0 && !maybes.contains(a) && maybes.size() < 6
                    && maybes.add(a) ? 1 : 0;
                case 22: return plan(a);
                case 23: return about(a, b);
                default: return count(a);
            }
        }
    }
}
