/**
 * Mazes of at most six rows and six columns, and the ways in them.
 *
 * <p>A cell is told as 10 times its row and its column. Inside it has a PLACE: 8 times its row and its column. A set
 * of cells is a long with a bit for each place, so that a whole set is moved at once; calls
 * use the arrays made by the constructor, and only keep makes an object, once for each slot.
 */
public final class HedgeWays {
    public static final int UNKNOWN = -1, BAD = -2, LATE = -3, FULL = -4, NONE = -9;

    private static final int MOST_ROWS = 6, MOST_COLUMNS = 6, MOST_CELLS = 36;
    /** Wider than a row, so that a set shifted by one never runs into the next row. */
    private static final int STRIDE = 8;
    private static final int PLACES = STRIDE * MOST_ROWS;
    private static final int NOWHERE = -1;
    private static final int UP = 0, RIGHT = 1, DOWN = 2, LEFT = 3, SIDES = 4;
    private static final int[] MOVES = {-8, 1, 8, -1};
    private static final int MOST_BYTES = 41;
    private static final int MOST_HEDGES = 60;
    private static final int MOST_HAND_STEPS = 999;
    private static final int MOST_CELLS_LOST = 10, MOST_CELLS_TREES = 16;
    private static final int TURNS = 8;
    private static final int SLOTS = 2;

    private final Scroll scroll;
    private final Grid grid;
    private final Grid turned;
    private final Grid[] slots;
    private final Maker maker;
    private final Survey survey;
    private final Routes routes;
    private final Walker walker;
    private final Sums sums;
    private final Changes changes;
    private final Hunt hunt;

    public HedgeWays() {
        scroll = new Scroll();
        grid = new Grid();
        turned = new Grid();
        slots = new Grid[SLOTS];
        maker = new Maker(grid);
        survey = new Survey(grid);
        routes = new Routes(grid);
        walker = new Walker(grid);
        sums = new Sums(grid);
        changes = new Changes(grid);
        hunt = new Hunt(grid);
    }

    // ---- mazes

    public int write(int n, long v) {
        if (n < 1 || n > 8) {
            return BAD;
        }
        if (scroll.length + n > MOST_BYTES) {
            return FULL;
        }
        scroll.append(n, v);
        return scroll.length;
    }

    public int wipe() {
        int length = scroll.length;
        scroll.length = 0;
        return length;
    }

    public int fault() {
        return scroll.firstFault();
    }

    public int maze() {
        if (scroll.firstFault() != NONE) {
            return LATE;
        }
        scroll.copyTo(grid);
        return grid.size();
    }

    public int make(int rows, int columns, long seed, int way) {
        if (rows < 1 || rows > MOST_ROWS || columns < 1 || columns > MOST_COLUMNS || way < 0 || way > 1) {
            return BAD;
        }
        grid.shutAll(rows, columns);
        if (way == 0) {
            maker.joinParts(seed);
        } else {
            maker.wander(seed);
        }
        return grid.size();
    }

    public int open(int cell, int side) {
        int place = grid.placeOf(cell);
        if (place == NOWHERE || !isSide(side)) {
            return UNKNOWN;
        }
        return oneIf(grid.isOpen(place, side));
    }

    public int hedge(int cell, int side, boolean open) {
        int place = grid.placeOf(cell);
        if (place == NOWHERE || !isSide(side)) {
            return UNKNOWN;
        }
        if (grid.beside(place, side) == NOWHERE) {
            return LATE;
        }
        int was = oneIf(grid.isOpen(place, side));
        grid.setOpen(place, side, open);
        return was;
    }

    public int gates(int a, int b) {
        int placeA = grid.placeOf(a);
        int placeB = grid.placeOf(b);
        if (placeA == NOWHERE || placeB == NOWHERE) {
            return UNKNOWN;
        }
        int were = 100 * Grid.told(grid.a) + Grid.told(grid.b);
        grid.a = placeA;
        grid.b = placeB;
        return were;
    }

    public int figure(int cell) {
        int place = grid.placeOf(cell);
        if (place == NOWHERE) {
            return UNKNOWN;
        }
        return oneIf(grid.isOpen(place, RIGHT)) + 2 * oneIf(grid.isOpen(place, DOWN));
    }

    // ---- what it is

    public int about(int what) {
        switch (what) {
            case 0: return grid.size();
            case 1: return grid.rows;
            case 2: return grid.columns;
            case 3: return grid.openings();
            case 4: return survey.parts();
            case 5: return grid.openings() + survey.parts() - grid.size();
            case 6: return survey.cellsWithNeighbours(1, 1);
            case 7: return survey.cellsWithNeighbours(3, 4);
            case 8: return survey.bridges();
            case 9: return Long.bitCount(survey.mustCells());
            case 10: return Long.bitCount(survey.leftCells());
            case 11: return Grid.told(grid.a);
            case 12: return Grid.told(grid.b);
            case 13: return scroll.length;
            default: return BAD;
        }
    }

    public int part(int cell) {
        int place = grid.placeOf(cell);
        if (place == NOWHERE) {
            return UNKNOWN;
        }
        return Grid.told(Grid.least(grid.partOf(place)));
    }

    public int bridge(int cell, int side) {
        int place = grid.placeOf(cell);
        if (place == NOWHERE || !isSide(side)) {
            return UNKNOWN;
        }
        if (!grid.isOpen(place, side)) {
            return LATE;
        }
        return oneIf(survey.isBridge(place, side));
    }

    public int must(int cell) {
        int place = grid.placeOf(cell);
        if (place == NOWHERE) {
            return UNKNOWN;
        }
        return oneIf(Grid.has(survey.mustCells(), place));
    }

    public int left(int cell) {
        int place = grid.placeOf(cell);
        if (place == NOWHERE) {
            return UNKNOWN;
        }
        return oneIf(Grid.has(survey.leftCells(), place));
    }

    // ---- ways

    public int far(int cell, int other) {
        int from = grid.placeOf(cell);
        int to = grid.placeOf(other);
        if (from == NOWHERE || to == NOWHERE) {
            return UNKNOWN;
        }
        return grid.distance(from, to);
    }

    public long ways(int cell, int other) {
        int from = grid.placeOf(cell);
        int to = grid.placeOf(other);
        if (from == NOWHERE || to == NOWHERE) {
            return UNKNOWN;
        }
        return routes.shortestWays(from, to);
    }

    public int step(int cell, int other, int k) {
        int from = grid.placeOf(cell);
        int to = grid.placeOf(other);
        if (from == NOWHERE || to == NOWHERE) {
            return UNKNOWN;
        }
        int place = routes.placeOnFirst(from, to, k);
        return place == NOWHERE ? NONE : Grid.told(place);
    }

    public int widest(int cell) {
        int place = grid.placeOf(cell);
        if (place == NOWHERE) {
            return UNKNOWN;
        }
        return routes.greatestDistance(grid.partOf(place));
    }

    public int hand(int side, boolean right) {
        if (!isSide(side)) {
            return UNKNOWN;
        }
        return walker.handSteps(side, right);
    }

    public int handAt(int side, boolean right, int k) {
        if (!isSide(side)) {
            return UNKNOWN;
        }
        if (k < 0 || k > MOST_HAND_STEPS) {
            return BAD;
        }
        return Grid.told(walker.handPlace(side, right, k));
    }

    public int thread() {
        return walker.followThread();
    }

    public int seen() {
        walker.followThread();
        return Long.bitCount(walker.visited);
    }

    public long lost(int cell, int other, boolean upper) {
        int from = grid.placeOf(cell);
        int to = grid.placeOf(other);
        if (from == NOWHERE || to == NOWHERE) {
            return UNKNOWN;
        }
        long part = grid.partOf(from);
        if (!Grid.has(part, to) || Long.bitCount(part) > MOST_CELLS_LOST) {
            return LATE;
        }
        sums.meanSteps(part, from, to);
        return upper ? sums.above : sums.below;
    }

    public long trees(int cell) {
        int place = grid.placeOf(cell);
        if (place == NOWHERE) {
            return UNKNOWN;
        }
        long part = grid.partOf(place);
        if (Long.bitCount(part) > MOST_CELLS_TREES) {
            return LATE;
        }
        return sums.treesOf(part, place);
    }

    // ---- broken, barred

    public int breaks(int cell, int other) {
        int from = grid.placeOf(cell);
        int to = grid.placeOf(other);
        if (from == NOWHERE || to == NOWHERE) {
            return UNKNOWN;
        }
        return changes.fewestBroken(from, to);
    }

    public int shortCut() {
        return changes.bestTakenAway();
    }

    public int bar() {
        return changes.bestPutIn();
    }

    public int chase(int runner, int hunter, boolean home) {
        int runs = grid.placeOf(runner);
        int hunts = grid.placeOf(hunter);
        if (runs == NOWHERE || hunts == NOWHERE) {
            return UNKNOWN;
        }
        return hunt.turnsTillWon(runs, hunts, home);
    }

    // ---- turned, kept

    public int same(int t) {
        if (t < 0 || t >= TURNS) {
            return BAD;
        }
        turned.turnOf(grid, t);
        return oneIf(turned.looksLike(grid));
    }

    public int turn(int t) {
        if (t < 0 || t >= TURNS) {
            return BAD;
        }
        turned.turnOf(grid, t);
        int changed = oneIf(!turned.looksLike(grid));
        grid.copyFrom(turned);
        return changed;
    }

    public int keep(int slot) {
        if (!isSlot(slot)) {
            return UNKNOWN;
        }
        Grid kept = slots[slot];
        if (kept == null) {
            kept = new Grid();
            slots[slot] = kept;
        }
        kept.copyFrom(grid);
        return grid.size();
    }

    public int again(int slot) {
        if (!isSlot(slot)) {
            return UNKNOWN;
        }
        Grid kept = slots[slot];
        if (kept == null) {
            return LATE;
        }
        grid.copyFrom(kept);
        return grid.size();
    }

    private static boolean isSide(int side) {
        return side >= 0 && side < SIDES;
    }

    private static boolean isSlot(int slot) {
        return slot >= 0 && slot < SLOTS;
    }

    private static int oneIf(boolean holds) {
        return holds ? 1 : 0;
    }

    /** THE TEXT. */
    private static final class Scroll {
        final int[] bytes;
        int length;

        Scroll() {
            bytes = new int[MOST_BYTES];
            length = 0;
        }

        void append(int n, long v) {
            for (int i = n - 1; i >= 0 && length < MOST_BYTES; i--) {
                bytes[length] = (int) ((v >>> (8 * i)) & 255);
                length++;
            }
        }

        int firstFault() {
            int row = 0;
            int column = 0;
            int width = 0; // 0: the first row has not ended, any width may still come
            boolean rightOpen = false;
            boolean downOpen = false;
            for (int at = 0; at < length && at < MOST_BYTES; at++) {
                int figure = bytes[at] - '0';
                if (bytes[at] == '/' && row < MOST_ROWS - 1 && rowMayEnd(column, width, rightOpen)) {
                    width = column;
                    row++;
                    column = 0;
                    rightOpen = false;
                    downOpen = false;
                } else if (figureFits(figure, row, column, width == 0 ? MOST_COLUMNS : width)) {
                    column++;
                    rightOpen = opensRight(figure);
                    downOpen = downOpen || opensDown(figure);
                } else {
                    return at;
                }
            }
            return rowMayEnd(column, width, rightOpen) && !downOpen ? NONE : length;
        }

        static boolean rowMayEnd(int column, int width, boolean rightOpen) {
            return column > 0 && !rightOpen && (width == 0 || column == width);
        }

        static boolean figureFits(int figure, int row, int column, int limit) {
            return figure >= 0 && figure <= 3 && column < limit
                    && !(opensRight(figure) && column == limit - 1)
                    && !(opensDown(figure) && row == MOST_ROWS - 1);
        }

        static boolean opensRight(int figure) {
            return (figure & 1) != 0;
        }

        static boolean opensDown(int figure) {
            return (figure & 2) != 0;
        }

        /** Asked only of a text without a fault, whose rows are all as wide as the first. */
        void copyTo(Grid grid) {
            int width = firstWidth();
            if (width < 1) {
                return;
            }
            grid.shutAll((length + 1) / (width + 1), width);
            for (int at = 0; at < length && at < MOST_BYTES; at++) {
                int column = at % (width + 1);
                if (column < width) {
                    int place = at / (width + 1) * STRIDE + column;
                    int figure = bytes[at] - '0';
                    grid.setOpen(place, RIGHT, opensRight(figure));
                    grid.setOpen(place, DOWN, opensDown(figure));
                }
            }
        }

        int firstWidth() {
            int width = 0;
            while (width < length && width < MOST_COLUMNS && bytes[width] != '/') {
                width++;
            }
            return width;
        }
    }

    /** A maze with its gates. */
    private static final class Grid {
        int rows;
        int columns;
        int a;
        int b;
        long cells;
        long right;
        long down;

        Grid() {
            shutAll(1, 1);
        }

        static long bit(int place) {
            return place < 0 || place >= PLACES ? 0 : 1L << place;
        }

        static boolean has(long set, int place) {
            return place >= 0 && place < PLACES && ((set >>> place) & 1) != 0;
        }

        static int told(int place) {
            return 10 * (place / STRIDE) + place % STRIDE;
        }

        static int least(long set) {
            return set == 0 ? NOWHERE : Long.bitCount((set & -set) - 1);
        }

        int placeOf(int cell) {
            int row = cell / 10;
            int column = cell % 10;
            return cell < 0 || row >= rows || column >= columns ? NOWHERE : row * STRIDE + column;
        }

        int size() {
            return rows * columns;
        }

        int openings() {
            return Long.bitCount(right) + Long.bitCount(down);
        }

        void shutAll(int newRows, int newColumns) {
            rows = newRows;
            columns = newColumns;
            cells = 0;
            for (int row = 0; row < newRows && row < MOST_ROWS; row++) {
                cells |= ((1L << newColumns) - 1) << (STRIDE * row);
            }
            right = 0;
            down = 0;
            a = 0;
            b = (newRows - 1) * STRIDE + newColumns - 1;
        }

        void copyFrom(Grid other) {
            rows = other.rows;
            columns = other.columns;
            a = other.a;
            b = other.b;
            cells = other.cells;
            right = other.right;
            down = other.down;
        }

        boolean looksLike(Grid other) {
            return rows == other.rows && columns == other.columns && right == other.right && down == other.down;
        }

        /** The place at a side; NOWHERE behind the rim. */
        int beside(int place, int side) {
            if (side < 0 || side >= SIDES) {
                return NOWHERE;
            }
            int next = place + MOVES[side];
            return has(cells, place) && has(cells, next) ? next : NOWHERE;
        }

        /** The place behind an opening; NOWHERE where it is shut. */
        int neighbour(int place, int side) {
            return isOpen(place, side) ? beside(place, side) : NOWHERE;
        }

        boolean isOpen(int place, int side) {
            switch (side) {
                case UP: return has(down << STRIDE, place);
                case RIGHT: return has(right, place);
                case DOWN: return has(down, place);
                case LEFT: return has(right << 1, place);
                default: return false;
            }
        }

        void setOpen(int place, int side, boolean open) {
            int next = beside(place, side);
            if (next == NOWHERE) {
                return;
            }
            // an opening is held once, by the cell above or left of it
            long holder = bit(Math.min(place, next));
            if (side == LEFT || side == RIGHT) {
                right = open ? right | holder : right & ~holder;
            } else {
                down = open ? down | holder : down & ~holder;
            }
        }

        boolean isHedge(int place, int side) {
            return beside(place, side) != NOWHERE && !isOpen(place, side);
        }

        /** A set and all neighbours of its cells. */
        long near(long set) {
            return set | ((set & right) << 1) | ((set >>> 1) & right)
                    | ((set & down) << STRIDE) | ((set >>> STRIDE) & down);
        }

        /** A set and all cells beside its cells, through hedges too. */
        long nearThroughHedges(long set) {
            return (set | (set << 1) | (set >>> 1) | (set << STRIDE) | (set >>> STRIDE)) & cells;
        }

        int neighbours(int place) {
            return Long.bitCount(near(bit(place))) - 1;
        }

        /** What hangs together with a set inside of another one. */
        long flood(long set, long inside) {
            long reached = set & inside;
            for (int i = 0; i < MOST_CELLS; i++) {
                long more = near(reached) & inside;
                if (more == reached) {
                    break;
                }
                reached = more;
            }
            return reached;
        }

        long partOf(int place) {
            return flood(bit(place), cells);
        }

        int distance(int from, int to) {
            long reached = bit(from);
            for (int steps = 0; steps < MOST_CELLS; steps++) {
                if (has(reached, to)) {
                    return steps;
                }
                reached = near(reached);
            }
            return NONE;
        }

        void turnOf(Grid other, int t) {
            boolean lying = t % 2 == 1;
            shutAll(lying ? other.columns : other.rows, lying ? other.rows : other.columns);
            for (int place = 0; place < PLACES; place++) {
                for (int side = RIGHT; side <= DOWN; side++) {
                    if (other.isOpen(place, side)) {
                        setOpen(other.turnedPlace(place, t), turnedSide(side, t), true);
                    }
                }
            }
            a = other.turnedPlace(other.a, t);
            b = other.turnedPlace(other.b, t);
        }

        int turnedPlace(int place, int t) {
            int row = place / STRIDE;
            int column = t >= 4 ? columns - 1 - place % STRIDE : place % STRIDE;
            switch (t % 4) {
                case 1: return column * STRIDE + rows - 1 - row;
                case 2: return (rows - 1 - row) * STRIDE + columns - 1 - column;
                case 3: return (columns - 1 - column) * STRIDE + row;
                default: return row * STRIDE + column;
            }
        }

        static int turnedSide(int side, int t) {
            int mirrored = t >= 4 ? SIDES - side : side;
            return (mirrored + t) % SIDES;
        }
    }

    /** Mazes made by seeds, in a grid that is all shut. */
    private static final class Maker {
        final Grid grid;
        final int[] hedges;
        final int[] cameFrom;
        long x;

        Maker(Grid grid) {
            this.grid = grid;
            hedges = new int[MOST_HEDGES];
            cameFrom = new int[PLACES];
        }

        int draw(int number) {
            x = x * 6364136223846793005L + 1442695040888963407L;
            return number < 1 ? 0 : (int) ((x >>> 33) % number);
        }

        /** WAY 0. */
        void joinParts(long seed) {
            x = seed;
            int count = listHedges();
            shuffle(count);
            for (int k = 0; k < count && k < MOST_HEDGES; k++) {
                int place = hedges[k] / SIDES;
                int side = hedges[k] % SIDES;
                if (!Grid.has(grid.partOf(place), grid.beside(place, side))) {
                    grid.setOpen(place, side, true);
                }
            }
        }

        int listHedges() {
            int count = 0;
            for (int place = 0; place < PLACES; place++) {
                for (int side = RIGHT; side <= DOWN; side++) {
                    if (grid.isHedge(place, side) && count < MOST_HEDGES) {
                        hedges[count] = place * SIDES + side;
                        count++;
                    }
                }
            }
            return count;
        }

        void shuffle(int count) {
            for (int k = Math.min(count, MOST_HEDGES) - 1; k >= 1; k--) {
                int other = draw(k + 1);
                int hedge = hedges[k];
                hedges[k] = hedges[other];
                hedges[other] = hedge;
            }
        }

        /** WAY 1: each cell is gone into once and gone back from once. */
        void wander(long seed) {
            x = seed;
            int place = 0;
            long visited = Grid.bit(place);
            for (int i = 0; i < 2 * MOST_CELLS; i++) {
                int choices = newSides(place, visited);
                if (choices > 0) {
                    int side = newSide(place, visited, draw(choices));
                    int next = grid.beside(place, side);
                    if (next == NOWHERE) {
                        return;
                    }
                    grid.setOpen(place, side, true);
                    cameFrom[next] = place;
                    visited |= Grid.bit(next);
                    place = next;
                } else if (place == 0 || !Grid.has(grid.cells, place)) {
                    return;
                } else {
                    place = cameFrom[place];
                }
            }
        }

        boolean isNew(int place, int side, long visited) {
            return Grid.has(grid.cells & ~visited, grid.beside(place, side));
        }

        int newSides(int place, long visited) {
            int count = 0;
            for (int side = 0; side < SIDES; side++) {
                if (isNew(place, side, visited)) {
                    count++;
                }
            }
            return count;
        }

        int newSide(int place, long visited, int drawn) {
            int passed = 0;
            for (int side = 0; side < SIDES; side++) {
                if (isNew(place, side, visited)) {
                    if (passed == drawn) {
                        return side;
                    }
                    passed++;
                }
            }
            return SIDES;
        }
    }

    /** Parts, bridges, cells that must be gone through, cells left. */
    private static final class Survey {
        final Grid grid;

        Survey(Grid grid) {
            this.grid = grid;
        }

        int parts() {
            int count = 0;
            long rest = grid.cells;
            for (int i = 0; i < MOST_CELLS && rest != 0; i++) {
                rest &= ~grid.partOf(Grid.least(rest));
                count++;
            }
            return count;
        }

        int cellsWithNeighbours(int fewest, int most) {
            int count = 0;
            for (int place = 0; place < PLACES; place++) {
                int neighbours = grid.neighbours(place);
                if (Grid.has(grid.cells, place) && neighbours >= fewest && neighbours <= most) {
                    count++;
                }
            }
            return count;
        }

        boolean isBridge(int place, int side) {
            int next = grid.neighbour(place, side);
            if (next == NOWHERE) {
                return false;
            }
            grid.setOpen(place, side, false);
            boolean parted = !Grid.has(grid.partOf(place), next);
            grid.setOpen(place, side, true);
            return parted;
        }

        int bridges() {
            int count = 0;
            for (int place = 0; place < PLACES; place++) {
                for (int side = RIGHT; side <= DOWN; side++) {
                    if (isBridge(place, side)) {
                        count++;
                    }
                }
            }
            return count;
        }

        long mustCells() {
            long start = Grid.bit(grid.a);
            long part = grid.flood(start, grid.cells);
            if (!Grid.has(part, grid.b)) {
                return 0;
            }
            long must = start | Grid.bit(grid.b);
            for (int place = 0; place < PLACES; place++) {
                long without = part & ~Grid.bit(place);
                if (Grid.has(part, place) && !Grid.has(grid.flood(start, without), grid.b)) {
                    must |= Grid.bit(place);
                }
            }
            return must;
        }

        long leftCells() {
            long open = grid.cells;
            for (int i = 0; i < MOST_CELLS; i++) {
                long before = open;
                for (int place = 0; place < PLACES; place++) {
                    if (place != grid.a && place != grid.b && isDeadEnd(place, open)) {
                        open &= ~Grid.bit(place);
                    }
                }
                if (open == before) {
                    break;
                }
            }
            return open;
        }

        /** A cell with no neighbour left counts as a dead end here. */
        boolean isDeadEnd(int place, long open) {
            long others = grid.near(Grid.bit(place)) & open & ~Grid.bit(place);
            return Long.bitCount(others) <= 1;
        }
    }

    /** Shortest ways. */
    private static final class Routes {
        final Grid grid;
        /** At d the cells that are d steps or fewer from where one wants to come. */
        final long[] within;
        final long[] counts;

        Routes(Grid grid) {
            this.grid = grid;
            within = new long[MOST_CELLS];
            counts = new long[PLACES];
        }

        long shortestWays(int from, int to) {
            if (!Grid.has(grid.cells, from)) {
                return 0;
            }
            counts[from] = 1;
            long reached = Grid.bit(from);
            long last = reached;
            for (int steps = 0; steps < MOST_CELLS && last != 0; steps++) {
                if (Grid.has(last, to)) {
                    return counts[to];
                }
                long next = grid.near(last) & ~reached;
                for (int place = 0; place < PLACES; place++) {
                    if (Grid.has(next, place)) {
                        counts[place] = waysInto(place, last);
                    }
                }
                reached |= next;
                last = next;
            }
            return 0;
        }

        long waysInto(int place, long last) {
            long sum = 0;
            for (int side = 0; side < SIDES; side++) {
                int before = grid.neighbour(place, side);
                if (before != NOWHERE && Grid.has(last, before)) {
                    sum += counts[before];
                }
            }
            return sum;
        }

        /** The place behind k steps of the first shortest way; NOWHERE. */
        int placeOnFirst(int from, int to, int k) {
            int length = grid.distance(from, to);
            if (length == NONE || k < 0 || k > length) {
                return NOWHERE;
            }
            within[0] = Grid.bit(to);
            for (int d = 1; d < length && d < MOST_CELLS; d++) {
                within[d] = grid.near(within[d - 1]);
            }
            int place = from;
            for (int i = 1; i <= k; i++) {
                place = firstInto(place, length - i);
            }
            return place;
        }

        int firstInto(int place, int d) {
            for (int side = 0; side < SIDES && d >= 0 && d < MOST_CELLS; side++) {
                int next = grid.neighbour(place, side);
                if (next != NOWHERE && Grid.has(within[d], next)) {
                    return next;
                }
            }
            return place;
        }

        int greatestDistance(long part) {
            int greatest = 0;
            for (int place = 0; place < PLACES; place++) {
                if (Grid.has(part, place)) {
                    greatest = Math.max(greatest, stepsToAll(place, part));
                }
            }
            return greatest;
        }

        int stepsToAll(int from, long part) {
            long reached = Grid.bit(from);
            int steps = 0;
            while (steps < MOST_CELLS && reached != part) {
                reached = grid.near(reached);
                steps++;
            }
            return steps;
        }
    }

    /** One who goes from A by a hand or by a thread. */
    private static final class Walker {
        final Grid grid;
        final int[] cameFrom;
        int place;
        int look;
        /** How many quarters to the right the hand is from where one looks: 1 or 3. */
        int hand;
        long visited;

        Walker(Grid grid) {
            this.grid = grid;
            cameFrom = new int[PLACES];
        }

        void beginByHand(int side, boolean right) {
            place = grid.a;
            look = side;
            hand = right ? 1 : 3;
        }

        void goByHand() {
            for (int i = 0; i < SIDES; i++) {
                // from the side of the hand on, each further quarter is away from the hand
                int side = (look + hand + i * (SIDES - hand)) % SIDES;
                int next = grid.neighbour(place, side);
                if (next != NOWHERE) {
                    place = next;
                    look = side;
                    return;
                }
            }
        }

        int handSteps(int side, boolean right) {
            beginByHand(side, right);
            // behind that many steps one looks somewhere as one did before
            for (int steps = 0; steps <= MOST_CELLS * SIDES; steps++) {
                if (place == grid.b) {
                    return steps;
                }
                goByHand();
            }
            return NONE;
        }

        int handPlace(int side, boolean right, int k) {
            beginByHand(side, right);
            for (int i = 0; i < k && i < MOST_HAND_STEPS; i++) {
                goByHand();
            }
            return place;
        }

        /** The steps; visited are then the cells one was in. */
        int followThread() {
            place = grid.a;
            visited = Grid.bit(place);
            for (int steps = 0; steps <= 2 * MOST_CELLS; steps++) {
                if (place == grid.b) {
                    return steps;
                }
                int next = firstNew();
                if (next != NOWHERE) {
                    cameFrom[next] = place;
                    visited |= Grid.bit(next);
                    place = next;
                } else if (place == grid.a || !Grid.has(grid.cells, place)) {
                    return NONE;
                } else {
                    place = cameFrom[place];
                }
            }
            return NONE;
        }

        int firstNew() {
            for (int side = 0; side < SIDES; side++) {
                int next = grid.neighbour(place, side);
                if (next != NOWHERE && !Grid.has(visited, next)) {
                    return next;
                }
            }
            return NOWHERE;
        }
    }

    /** What is told by equations over the cells of a part: how long one is lost, how many trees there are. */
    private static final class Sums {
        final Grid grid;
        /** The part's cells but one, each with a row of its own. */
        final int[] order;
        final long[][] table;
        int count;
        long above;
        long below;

        Sums(Grid grid) {
            this.grid = grid;
            order = new int[MOST_CELLS_TREES];
            table = new long[MOST_CELLS_TREES][MOST_CELLS_TREES + 1];
        }

        /** The mean as above and below, in least terms. */
        void meanSteps(long part, int from, int to) {
            above = 0;
            below = 1;
            if (from == to) {
                return;
            }
            // the row that is last is the one that is solved
            list(part & ~Grid.bit(from) & ~Grid.bit(to));
            add(from);
            fillTable();
            eliminate();
            if (count >= 1 && count <= MOST_CELLS_TREES) {
                setFraction(table[count - 1][count], table[count - 1][count - 1]);
            }
        }

        long treesOf(long part, int root) {
            list(part & ~Grid.bit(root));
            fillTable();
            eliminate();
            return count < 1 || count > MOST_CELLS_TREES ? 1 : table[count - 1][count - 1];
        }

        void list(long set) {
            count = 0;
            for (int place = 0; place < PLACES; place++) {
                if (Grid.has(set, place)) {
                    add(place);
                }
            }
        }

        void add(int place) {
            if (count < MOST_CELLS_TREES) {
                order[count] = place;
                count++;
            }
        }

        /** Each row says: neighbours times one's own steps, less those of all neighbours, are the neighbours. */
        void fillTable() {
            for (int i = 0; i < count && i < MOST_CELLS_TREES; i++) {
                long near = grid.near(Grid.bit(order[i]));
                for (int j = 0; j < count && j < MOST_CELLS_TREES; j++) {
                    table[i][j] = Grid.has(near, order[j]) ? -1 : 0;
                }
                table[i][i] = grid.neighbours(order[i]);
                table[i][count] = table[i][i];
            }
        }

        /**
         * Bareiss: all divisions leave nothing, and the last number of the diagonal becomes the determinant. In a part
         * that hangs together no pivot is 0.
         */
        void eliminate() {
            long previous = 1;
            for (int k = 0; k < count - 1 && k < MOST_CELLS_TREES; k++) {
                long pivot = table[k][k];
                for (int i = k + 1; i < count && i < MOST_CELLS_TREES; i++) {
                    for (int j = k + 1; j <= count && j <= MOST_CELLS_TREES && previous != 0; j++) {
                        table[i][j] = (table[i][j] * pivot - table[i][k] * table[k][j]) / previous;
                    }
                }
                previous = pivot;
            }
        }

        void setFraction(long over, long under) {
            long divisor = commonDivisor(over, under);
            if (divisor != 0) {
                above = over / divisor;
                below = under / divisor;
            }
        }

        static long commonDivisor(long one, long other) {
            long greater = one;
            long less = other;
            // Euclid's way is never longer for two longs
            for (int i = 0; i < 100 && less != 0; i++) {
                long rest = greater % less;
                greater = less;
                less = rest;
            }
            return greater;
        }
    }

    /** Hedges gone through, one taken away, one put in. */
    private static final class Changes {
        final Grid grid;

        Changes(Grid grid) {
            this.grid = grid;
        }

        int fewestBroken(int from, int to) {
            long reached = grid.partOf(from);
            int broken = 0;
            while (broken < MOST_CELLS && !Grid.has(reached, to)) {
                reached = grid.flood(grid.nearThroughHedges(reached), grid.cells);
                broken++;
            }
            return broken;
        }

        int bestTakenAway() {
            int best = NONE;
            int least = grid.distance(grid.a, grid.b);
            for (int place = 0; place < PLACES; place++) {
                for (int side = RIGHT; side <= DOWN; side++) {
                    if (!grid.isHedge(place, side)) {
                        continue;
                    }
                    int steps = distanceWith(place, side, true);
                    if (steps != NONE && (least == NONE || steps < least)) {
                        least = steps;
                        best = 10 * Grid.told(place) + side;
                    }
                }
            }
            return best;
        }

        int bestPutIn() {
            int best = NONE;
            int greatest = grid.distance(grid.a, grid.b);
            for (int place = 0; place < PLACES && greatest != NONE; place++) {
                for (int side = RIGHT; side <= DOWN; side++) {
                    if (!grid.isOpen(place, side)) {
                        continue;
                    }
                    int steps = distanceWith(place, side, false);
                    if (steps != NONE && steps > greatest) {
                        greatest = steps;
                        best = 10 * Grid.told(place) + side;
                    }
                }
            }
            return best;
        }

        /** From A to B, if a side that is otherwise were open or shut; the side stays as it is. */
        int distanceWith(int place, int side, boolean open) {
            grid.setOpen(place, side, open);
            int steps = grid.distance(grid.a, grid.b);
            grid.setOpen(place, side, !open);
            return steps;
        }
    }

    /** The runner and the hunter: which of them wins is told backwards, turn by turn. */
    private static final class Hunt {
        static final int MOST_TURNS = MOST_CELLS * MOST_CELLS;

        final Grid grid;
        /** By the runner's place, it being its turn: the hunter's places with which the one asked for surely wins. */
        final long[] before;
        /** Likewise when the runner has gone there, it being the hunter's turn. */
        final long[] after;

        Hunt(Grid grid) {
            this.grid = grid;
            before = new long[PLACES];
            after = new long[PLACES];
        }

        /** In how many turns of its own the runner (home), the hunter wins; NONE. */
        int turnsTillWon(int runner, int hunter, boolean home) {
            if (runner == grid.b) {
                return home ? 0 : NONE;
            }
            if (runner == hunter || runner < 0 || runner >= PLACES) {
                return home ? NONE : 0;
            }
            beginWith(home);
            // each turn but the last makes at least one pair of places more be won
            for (int turns = 1; turns <= MOST_TURNS; turns++) {
                lookBackOverHunter(home);
                boolean more = lookBackOverRunner(home);
                if (Grid.has(before[runner], hunter)) {
                    return turns;
                }
                if (!more) {
                    return NONE;
                }
            }
            return NONE;
        }

        void beginWith(boolean home) {
            for (int place = 0; place < PLACES; place++) {
                before[place] = home ? 0 : Grid.bit(place);
            }
        }

        void lookBackOverHunter(boolean home) {
            for (int place = 0; place < PLACES; place++) {
                if (place == grid.b) {
                    after[place] = home ? grid.cells & ~Grid.bit(place) : Grid.bit(place);
                } else if (home) {
                    after[place] = grid.cells & ~grid.near(grid.cells & ~before[place]);
                } else {
                    after[place] = grid.near(before[place]);
                }
            }
        }

        boolean lookBackOverRunner(boolean home) {
            boolean more = false;
            for (int place = 0; place < PLACES; place++) {
                if (Grid.has(grid.cells, place)) {
                    long won = overChoices(place, home);
                    won = home ? won & ~Grid.bit(place) : won | Grid.bit(place);
                    more = more || won != before[place];
                    before[place] = won;
                }
            }
            return more;
        }

        /** The runner needs one good choice, the hunter that each of the runner's choices is good for it. */
        long overChoices(int place, boolean home) {
            long set = after[place];
            for (int side = 0; side < SIDES; side++) {
                int next = grid.neighbour(place, side);
                if (next != NOWHERE) {
                    set = home ? set | after[next] : set & after[next];
                }
            }
            return set;
        }
    }
}
