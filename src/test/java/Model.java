import java.math.BigInteger;
import java.util.ArrayList;
import java.util.Arrays;
import java.util.List;

/**
 * The document once more, written from its words in another way than the program (no sets in longs, whatever the
 * document tells by "the least of all" is tried out), to hold the program's answers against.
 */
final class Model {
    static final int UNKNOWN = -1, BAD = -2, LATE = -3, FULL = -4, NONE = -9;
    static final int[] DOWNWARDS = {-1, 0, 1, 0}, RIGHTWARDS = {0, 1, 0, -1};

    /** A maze: openings as pairs of cells, both ways round. */
    static final class Maze {
        int rows, columns, a, b;
        boolean[][] joined = new boolean[60][60];

        Maze(int rows, int columns) {
            this.rows = rows;
            this.columns = columns;
            b = 10 * (rows - 1) + columns - 1;
        }

        Maze copy() {
            Maze m = new Maze(rows, columns);
            m.a = a;
            m.b = b;
            for (int i = 0; i < 60; i++) m.joined[i] = joined[i].clone();
            return m;
        }

        boolean is(int cell) {
            return cell >= 0 && cell / 10 < rows && cell % 10 < columns;
        }

        List<Integer> cells() {
            List<Integer> all = new ArrayList<>();
            for (int r = 0; r < rows; r++) for (int c = 0; c < columns; c++) all.add(10 * r + c);
            return all;
        }

        /** The cell at a side or -1. */
        int at(int cell, int side) {
            int r = cell / 10 + DOWNWARDS[side], c = cell % 10 + RIGHTWARDS[side];
            return r < 0 || c < 0 || r >= rows || c >= columns ? -1 : 10 * r + c;
        }

        boolean open(int cell, int side) {
            int n = at(cell, side);
            return n >= 0 && joined[cell][n];
        }

        void join(int one, int other, boolean open) {
            joined[one][other] = open;
            joined[other][one] = open;
        }

        List<Integer> neighbours(int cell) {
            List<Integer> all = new ArrayList<>();
            for (int s = 0; s < 4; s++) if (open(cell, s)) all.add(at(cell, s));
            return all;
        }

        /** Fewest steps between all cells (Floyd and Warshall); hedges cost `through`, openings `along`. */
        int[][] table(int along, int through) {
            int[][] d = new int[60][60];
            for (int[] row : d) Arrays.fill(row, 100000);
            for (int cell : cells()) {
                d[cell][cell] = 0;
                for (int s = 0; s < 4; s++) if (at(cell, s) >= 0) d[cell][at(cell, s)] = open(cell, s) ? along : through;
            }
            int[] all = cells().stream().mapToInt(Integer::intValue).toArray();
            for (int k : all) for (int i : all) for (int j : all) d[i][j] = Math.min(d[i][j], d[i][k] + d[k][j]);
            return d;
        }

        int far(int from, int to) {
            int d = table(1, 100000)[from][to];
            return d >= 100000 ? NONE : d;
        }

        int parts() {
            int[][] d = table(1, 100000);
            int count = 0;
            for (int cell : cells()) {
                boolean first = true;
                for (int other : cells()) if (other < cell && d[cell][other] < 100000) first = false;
                if (first) count++;
            }
            return count;
        }

        List<Integer> part(int cell) {
            int[][] d = table(1, 100000);
            List<Integer> all = new ArrayList<>();
            for (int other : cells()) if (d[cell][other] < 100000) all.add(other);
            return all;
        }

        int openings() {
            int count = 0;
            for (int i : cells()) for (int j : cells()) if (i < j && joined[i][j]) count++;
            return count;
        }

        boolean bridge(int cell, int side) {
            Maze without = copy();
            without.join(cell, at(cell, side), false);
            return without.parts() > parts();
        }

        boolean must(int cell) {
            if (far(a, b) == NONE) return false;
            if (cell == a || cell == b) return true;
            Maze without = copy();
            for (int n : neighbours(cell)) without.join(cell, n, false);
            return without.far(a, b) == NONE;
        }

        List<Integer> left() {
            List<Integer> rest = cells();
            while (true) {
                Integer shut = null;
                for (Integer cell : rest) {
                    List<Integer> near = neighbours(cell);
                    near.retainAll(rest);
                    if (near.size() < 2 && cell != a && cell != b) shut = cell;
                }
                if (shut == null) return rest;
                rest.remove(shut);
            }
        }
    }

    private final List<Integer> text = new ArrayList<>();
    private Maze maze = new Maze(1, 1);
    private final Maze[] slots = new Maze[2];

    int write(int n, long v) {
        if (n < 1 || n > 8) return BAD;
        if (text.size() + n > 41) return FULL;
        byte[] eight = BigInteger.valueOf(v).toByteArray();
        byte[] all = new byte[8];
        Arrays.fill(all, (byte) (v < 0 ? -1 : 0));
        System.arraycopy(eight, 0, all, 8 - eight.length, eight.length);
        for (int i = 8 - n; i < 8; i++) text.add(Byte.toUnsignedInt(all[i]));
        return text.size();
    }

    int wipe() {
        int was = text.size();
        text.clear();
        return was;
    }

    /** Whether the first bytes of the text can begin a maze of just so many rows and columns. */
    private boolean begins(int length, int rows, int columns) {
        if (length > rows * (columns + 1) - 1) return false;
        for (int p = 0; p < length; p++) {
            int r = p / (columns + 1), c = p % (columns + 1), sign = text.get(p);
            if (c == columns) {
                if (sign != '/') return false;
                continue;
            }
            if (sign < '0' || sign > '3') return false;
            if (c == columns - 1 && (sign - '0') % 2 == 1) return false;
            if (r == rows - 1 && sign >= '2') return false;
        }
        return true;
    }

    private int[] size(int length, boolean whole) {
        for (int rows = 1; rows <= 6; rows++) for (int columns = 1; columns <= 6; columns++)
            if (begins(length, rows, columns) && (!whole || length == rows * (columns + 1) - 1))
                return new int[] {rows, columns};
        return null;
    }

    int fault() {
        for (int length = 1; length <= text.size(); length++) if (size(length, false) == null) return length - 1;
        return size(text.size(), true) != null ? NONE : text.size();
    }

    int maze() {
        if (fault() != NONE) return LATE;
        int[] size = size(text.size(), true);
        maze = new Maze(size[0], size[1]);
        for (int cell : maze.cells()) {
            int figure = text.get(cell / 10 * (size[1] + 1) + cell % 10) - '0';
            if (figure % 2 == 1) maze.join(cell, cell + 1, true);
            if (figure >= 2) maze.join(cell, cell + 10, true);
        }
        return maze.cells().size();
    }

    private BigInteger x;

    private int draw(int number) {
        BigInteger all = BigInteger.ONE.shiftLeft(64);
        x = x.multiply(new BigInteger("6364136223846793005")).add(new BigInteger("1442695040888963407")).mod(all);
        return x.shiftRight(33).mod(BigInteger.valueOf(number)).intValue();
    }

    int make(int rows, int columns, long seed, int way) {
        if (rows < 1 || rows > 6 || columns < 1 || columns > 6 || (way != 0 && way != 1)) return BAD;
        maze = new Maze(rows, columns);
        x = BigInteger.valueOf(seed).mod(BigInteger.ONE.shiftLeft(64));
        if (way == 0) {
            List<int[]> hedges = new ArrayList<>();
            for (int cell : maze.cells()) {
                if (maze.at(cell, 1) >= 0) hedges.add(new int[] {cell, cell + 1});
                if (maze.at(cell, 2) >= 0) hedges.add(new int[] {cell, cell + 10});
            }
            for (int k = hedges.size() - 1; k >= 1; k--) java.util.Collections.swap(hedges, k, draw(k + 1));
            int[] root = new int[60];
            for (int i = 0; i < 60; i++) root[i] = i;
            for (int[] h : hedges) {
                int one = root[h[0]], other = root[h[1]];
                if (one == other) continue;
                maze.join(h[0], h[1], true);
                for (int i = 0; i < 60; i++) if (root[i] == one) root[i] = other;
            }
        } else {
            dig(0, new boolean[60]);
        }
        return rows * columns;
    }

    private void dig(int cell, boolean[] was) {
        was[cell] = true;
        while (true) {
            List<Integer> fresh = new ArrayList<>();
            for (int s = 0; s < 4; s++) if (maze.at(cell, s) >= 0 && !was[maze.at(cell, s)]) fresh.add(maze.at(cell, s));
            if (fresh.isEmpty()) return;
            int next = fresh.get(draw(fresh.size()));
            maze.join(cell, next, true);
            dig(next, was);
        }
    }

    private static boolean side(int side) {
        return 0 <= side && side <= 3;
    }

    int open(int cell, int side) {
        return !maze.is(cell) || !side(side) ? UNKNOWN : maze.open(cell, side) ? 1 : 0;
    }

    int hedge(int cell, int side, boolean open) {
        if (!maze.is(cell) || !side(side)) return UNKNOWN;
        if (maze.at(cell, side) < 0) return LATE;
        int was = maze.open(cell, side) ? 1 : 0;
        maze.join(cell, maze.at(cell, side), open);
        return was;
    }

    int gates(int a, int b) {
        if (!maze.is(a) || !maze.is(b)) return UNKNOWN;
        int were = 100 * maze.a + maze.b;
        maze.a = a;
        maze.b = b;
        return were;
    }

    int figure(int cell) {
        return !maze.is(cell) ? UNKNOWN : (maze.open(cell, 1) ? 1 : 0) + (maze.open(cell, 2) ? 2 : 0);
    }

    int about(int what) {
        int count = 0;
        switch (what) {
            case 0: return maze.cells().size();
            case 1: return maze.rows;
            case 2: return maze.columns;
            case 3: return maze.openings();
            case 4: return maze.parts();
            case 5: return maze.openings() + maze.parts() - maze.cells().size();
            case 6: for (int cell : maze.cells()) if (maze.neighbours(cell).size() == 1) count++; return count;
            case 7: for (int cell : maze.cells()) if (maze.neighbours(cell).size() > 2) count++; return count;
            case 8:
                for (int cell : maze.cells()) for (int s = 1; s < 3; s++)
                    if (maze.open(cell, s) && maze.bridge(cell, s)) count++;
                return count;
            case 9: for (int cell : maze.cells()) if (maze.must(cell)) count++; return count;
            case 10: return maze.left().size();
            case 11: return maze.a;
            case 12: return maze.b;
            case 13: return text.size();
            default: return BAD;
        }
    }

    int part(int cell) {
        return maze.is(cell) ? maze.part(cell).get(0) : UNKNOWN;
    }

    int bridge(int cell, int side) {
        if (!maze.is(cell) || !side(side)) return UNKNOWN;
        if (!maze.open(cell, side)) return LATE;
        return maze.bridge(cell, side) ? 1 : 0;
    }

    int must(int cell) {
        return !maze.is(cell) ? UNKNOWN : maze.must(cell) ? 1 : 0;
    }

    int left(int cell) {
        return !maze.is(cell) ? UNKNOWN : maze.left().contains(cell) ? 1 : 0;
    }

    int far(int cell, int other) {
        return !maze.is(cell) || !maze.is(other) ? UNKNOWN : maze.far(cell, other);
    }

    long ways(int cell, int other) {
        if (!maze.is(cell) || !maze.is(other)) return UNKNOWN;
        return countWays(cell, other, maze.table(1, 100000));
    }

    private long countWays(int cell, int other, int[][] d) {
        if (cell == other) return 1;
        long sum = 0;
        for (int n : maze.neighbours(cell)) if (d[n][other] + 1 == d[cell][other]) sum += countWays(n, other, d);
        return sum;
    }

    int step(int cell, int other, int k) {
        if (!maze.is(cell) || !maze.is(other)) return UNKNOWN;
        int[][] d = maze.table(1, 100000);
        if (d[cell][other] >= 100000 || k < 0 || k > d[cell][other]) return NONE;
        int at = cell;
        for (int i = 0; i < k; i++) {
            for (int n : maze.neighbours(at)) {
                if (d[n][other] + 1 == d[at][other]) {
                    at = n;
                    break;
                }
            }
        }
        return at;
    }

    int widest(int cell) {
        if (!maze.is(cell)) return UNKNOWN;
        int[][] d = maze.table(1, 100000);
        int most = 0;
        for (int i : maze.part(cell)) for (int j : maze.part(cell)) most = Math.max(most, d[i][j]);
        return most;
    }

    private int[] byHand(int cell, int look, boolean right) {
        int[] order = right ? new int[] {1, 0, 3, 2} : new int[] {3, 0, 1, 2};
        for (int o : order) if (maze.open(cell, (look + o) % 4)) {
            return new int[] {maze.at(cell, (look + o) % 4), (look + o) % 4};
        }
        return new int[] {cell, look};
    }

    int hand(int side, boolean right) {
        if (!side(side)) return UNKNOWN;
        int[] at = {maze.a, side};
        for (int steps = 0; steps < 5000; steps++) {
            if (at[0] == maze.b) return steps;
            at = byHand(at[0], at[1], right);
        }
        return NONE;
    }

    int handAt(int side, boolean right, int k) {
        if (!side(side)) return UNKNOWN;
        if (k < 0 || k > 999) return BAD;
        int[] at = {maze.a, side};
        for (int i = 0; i < k; i++) at = byHand(at[0], at[1], right);
        return at[0];
    }

    private int threadSteps, threadSeen;

    /** Whether B was found from a cell on. */
    private boolean spin(int cell, boolean[] was) {
        was[cell] = true;
        threadSeen++;
        if (cell == maze.b) return true;
        for (int n : maze.neighbours(cell)) {
            if (was[n]) continue;
            threadSteps++;
            if (spin(n, was)) return true;
            threadSteps++;
        }
        return false;
    }

    int thread() {
        threadSteps = 0;
        threadSeen = 0;
        return spin(maze.a, new boolean[60]) ? threadSteps : NONE;
    }

    int seen() {
        thread();
        return threadSeen;
    }

    /** A number as a fraction of whole numbers, the lower one over 0. */
    record Ratio(BigInteger above, BigInteger below) {
        static Ratio of(BigInteger above, BigInteger below) {
            BigInteger g = above.gcd(below);
            if (below.signum() < 0) g = g.negate();
            return new Ratio(above.divide(g), below.divide(g));
        }

        static Ratio of(long n) {
            return new Ratio(BigInteger.valueOf(n), BigInteger.ONE);
        }

        Ratio times(Ratio o) {
            return of(above.multiply(o.above), below.multiply(o.below));
        }

        Ratio by(Ratio o) {
            return of(above.multiply(o.below), below.multiply(o.above));
        }

        Ratio less(Ratio o) {
            return of(above.multiply(o.below).subtract(o.above.multiply(below)), below.multiply(o.below));
        }

        boolean isZero() {
            return above.signum() == 0;
        }
    }

    long lost(int cell, int other, boolean upper) {
        if (!maze.is(cell) || !maze.is(other)) return UNKNOWN;
        List<Integer> part = maze.part(cell);
        if (!part.contains(other) || part.size() > 10) return LATE;
        int n = part.size();
        // the steps from each cell: 1 and the mean of those from its neighbours; 0 from the other one
        Ratio[][] t = new Ratio[n][n + 1];
        for (int i = 0; i < n; i++) {
            for (int j = 0; j <= n; j++) t[i][j] = Ratio.of(i == j ? 1 : 0);
            if (part.get(i) == other) continue;
            List<Integer> near = maze.neighbours(part.get(i));
            for (int m : near) t[i][part.indexOf(m)] = Ratio.of(-1).by(Ratio.of(near.size()));
            t[i][n] = Ratio.of(1);
        }
        for (int k = 0; k < n; k++) {
            int p = k;
            while (t[p][k].isZero()) p++;
            Ratio[] swap = t[p];
            t[p] = t[k];
            t[k] = swap;
            Ratio pivot = t[k][k];
            for (int j = 0; j <= n; j++) t[k][j] = t[k][j].by(pivot);
            for (int i = 0; i < n; i++) {
                if (i == k) continue;
                Ratio f = t[i][k];
                for (int j = 0; j <= n; j++) t[i][j] = t[i][j].less(f.times(t[k][j]));
            }
        }
        Ratio mean = t[part.indexOf(cell)][n];
        return (upper ? mean.above : mean.below).longValueExact();
    }

    long trees(int cell) {
        if (!maze.is(cell)) return UNKNOWN;
        List<Integer> part = maze.part(cell);
        if (part.size() > 16) return LATE;
        List<int[]> openings = new ArrayList<>();
        for (int i : part) for (int j : part) if (i < j && maze.joined[i][j]) {
            openings.add(new int[] {part.indexOf(i), part.indexOf(j)});
        }
        return treesOver(part.size(), openings);
    }

    /** Trees that go without the first opening and trees that go over it (its ends then being one cell). */
    private static long treesOver(int cells, List<int[]> openings) {
        if (cells == 1) return 1;
        if (openings.isEmpty()) return 0;
        int one = openings.get(0)[0], other = openings.get(0)[1];
        // a bundle of openings between the same two cells is taken at once
        int bundle = 0;
        List<int[]> without = new ArrayList<>(), merged = new ArrayList<>();
        for (int[] o : openings) {
            if ((o[0] == one && o[1] == other) || (o[0] == other && o[1] == one)) {
                bundle++;
                continue;
            }
            without.add(o);
            merged.add(new int[] {o[0] == other ? one : o[0], o[1] == other ? one : o[1]});
        }
        long over = bundle * treesOver(cells - 1, merged);
        return joinsAll(cells, without, openings) ? over + treesOver(cells, without) : over;
    }

    private static boolean joinsAll(int cells, List<int[]> openings, List<int[]> all) {
        java.util.Set<Integer> ends = new java.util.HashSet<>();
        for (int[] o : all) ends.addAll(List.of(o[0], o[1]));
        java.util.Set<Integer> reached = new java.util.HashSet<>(List.of(all.get(0)[0]));
        for (int i = 0; i < cells; i++) for (int[] o : openings) {
            if (reached.contains(o[0]) || reached.contains(o[1])) reached.addAll(List.of(o[0], o[1]));
        }
        return reached.containsAll(ends);
    }

    int breaks(int cell, int other) {
        return !maze.is(cell) || !maze.is(other) ? UNKNOWN : maze.table(0, 1)[cell][other];
    }

    int shortCut() {
        int best = NONE, least = maze.far(maze.a, maze.b) == NONE ? 1000 : maze.far(maze.a, maze.b);
        for (int cell : maze.cells()) for (int s = 1; s < 3; s++) {
            if (maze.at(cell, s) < 0 || maze.open(cell, s)) continue;
            Maze m = maze.copy();
            m.join(cell, m.at(cell, s), true);
            int far = m.far(m.a, m.b);
            if (far != NONE && far < least) {
                least = far;
                best = 10 * cell + s;
            }
        }
        return best;
    }

    int bar() {
        int best = NONE, most = maze.far(maze.a, maze.b);
        if (most == NONE) return NONE;
        for (int cell : maze.cells()) for (int s = 1; s < 3; s++) {
            if (!maze.open(cell, s)) continue;
            Maze m = maze.copy();
            m.join(cell, m.at(cell, s), false);
            int far = m.far(m.a, m.b);
            if (far != NONE && far > most) {
                most = far;
                best = 10 * cell + s;
            }
        }
        return best;
    }

    /** Whether, the runner being to go, the one asked for wins within so many turns of its own: told[turns][r][h]. */
    int chase(int runner, int hunter, boolean home) {
        if (!maze.is(runner) || !maze.is(hunter)) return UNKNOWN;
        if (runner == maze.b) return home ? 0 : NONE;
        if (runner == hunter) return home ? NONE : 0;
        List<Integer> cells = maze.cells();
        boolean[][] within = new boolean[60][60];
        for (int turns = 1; ; turns++) {
            boolean[][] next = new boolean[60][60];
            for (int r : cells) for (int h : cells) {
                if (r != h && r != maze.b) next[r][h] = home ? runnerWins(r, h, within) : hunterWins(r, h, within);
            }
            if (next[runner][hunter]) return turns;
            if (Arrays.deepEquals(next, within)) return NONE;
            within = next;
        }
    }

    private List<Integer> choices(int cell) {
        List<Integer> all = maze.neighbours(cell);
        all.add(cell);
        return all;
    }

    private boolean runnerWins(int r, int h, boolean[][] within) {
        for (int goes : choices(r)) {
            if (goes == h) continue;
            if (goes == maze.b) return true;
            boolean always = true;
            for (int comes : choices(h)) if (comes == goes || !within[goes][comes]) always = false;
            if (always) return true;
        }
        return false;
    }

    private boolean hunterWins(int r, int h, boolean[][] within) {
        for (int goes : choices(r)) {
            if (goes == h) continue;
            if (goes == maze.b) return false;
            boolean once = false;
            for (int comes : choices(h)) if (comes == goes || within[goes][comes]) once = true;
            if (!once) return false;
        }
        return true;
    }

    private static Maze quarter(Maze m) {
        Maze to = new Maze(m.columns, m.rows);
        for (int i : m.cells()) for (int j : m.cells()) if (m.joined[i][j]) to.join(quarter(m, i), quarter(m, j), true);
        to.a = quarter(m, m.a);
        to.b = quarter(m, m.b);
        return to;
    }

    private static int quarter(Maze m, int cell) {
        return 10 * (cell % 10) + m.rows - 1 - cell / 10;
    }

    private static Maze mirror(Maze m) {
        Maze to = new Maze(m.rows, m.columns);
        for (int i : m.cells()) for (int j : m.cells()) if (m.joined[i][j]) to.join(mirror(m, i), mirror(m, j), true);
        to.a = mirror(m, m.a);
        to.b = mirror(m, m.b);
        return to;
    }

    private static int mirror(Maze m, int cell) {
        return cell / 10 * 10 + m.columns - 1 - cell % 10;
    }

    private Maze turned(int t) {
        Maze m = t >= 4 ? mirror(maze) : maze;
        for (int i = 0; i < t % 4; i++) m = quarter(m);
        return m;
    }

    private static boolean alike(Maze one, Maze other) {
        return one.rows == other.rows && one.columns == other.columns && Arrays.deepEquals(one.joined, other.joined);
    }

    int same(int t) {
        return t < 0 || t > 7 ? BAD : alike(turned(t), maze) ? 1 : 0;
    }

    int turn(int t) {
        if (t < 0 || t > 7) return BAD;
        Maze to = turned(t);
        int changed = alike(to, maze) ? 0 : 1;
        maze = to.copy();
        return changed;
    }

    int keep(int slot) {
        if (slot < 0 || slot > 1) return UNKNOWN;
        slots[slot] = maze.copy();
        return maze.cells().size();
    }

    int again(int slot) {
        if (slot < 0 || slot > 1) return UNKNOWN;
        if (slots[slot] == null) return LATE;
        maze = slots[slot].copy();
        return maze.cells().size();
    }
}
