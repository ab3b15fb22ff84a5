/** Promises 16 to 25: a test of its own for each sentence that names an edge or a refusal. */
public final class EdgesWaysTest {
    private static final int UNKNOWN = Mazes.UNKNOWN, BAD = Mazes.BAD, LATE = Mazes.LATE, NONE = Mazes.NONE;
    private static final int MIN = Mazes.MIN, MAX = Mazes.MAX;
    private static final String RING = Mazes.RING, SHUT_36 = Mazes.SHUT_36, OPEN_36 = Mazes.OPEN_36;
    private static final String SNAKE_36 = Mazes.SNAKE_36, OPEN_9 = Mazes.OPEN_9;
    private static final String STAR = "020/130/000";
    /** A snake of 36 cut behind so many cells of it. */
    private static final String SNAKE_10 = "111112/301110/111112/311110/111112/111110";
    private static final String SNAKE_11 = "111112/211110/111112/311110/111112/111110";
    private static final String SNAKE_16 = "111112/311110/111012/311110/111112/111110";
    private static final String SNAKE_17 = "111112/311110/111102/311110/111112/111110";

    private EdgesWaysTest() {
    }

    public static void main(String[] args) {
        far();
        ways();
        step();
        widest();
        hand();
        handAt();
        threadAndSeen();
        lost();
        trees();
        Checks.end("EdgesWaysTest");
    }

    /** Each cell of 36. */
    private static int[] all() {
        int[] cells = new int[36];
        for (int i = 0; i < 36; i++) cells[i] = 10 * (i / 6) + i % 6;
        return cells;
    }

    // ---- 16

    private static void fars(String why, String maze, int from, int to, int due) {
        Checks.still("16 far: " + why, Mazes.holding(maze), h -> h.far(from, to), due);
        Checks.still("16 far: back, " + why, Mazes.holding(maze), h -> h.far(to, from), due);
    }

    private static void far() {
        Mazes.unknownButCells("16 far: from", (h, cell) -> h.far(cell, 0));
        Mazes.unknownButCells("16 far: to", (h, cell) -> h.far(0, cell));
        Mazes.unknownButCells("16 far: both", (h, cell) -> h.far(cell, cell));
        for (int cell : all()) {
            fars("a CELL to itself, alone", SHUT_36, cell, cell, 0);
            fars("a CELL to itself", OPEN_36, cell, cell, 0);
            if (cell != 23) fars("two PARTS", SHUT_36, cell, 23, NONE);
            fars("all open", OPEN_36, 0, cell, cell / 10 + cell % 10);
        }
        fars("two PARTS", RING, 2, 12, NONE);
        fars("side by side, a HEDGE between", "32/00", 10, 11, 3);
        fars("the farthest", SNAKE_36, 0, 50, 35);
        fars("the farthest but one", SNAKE_36, 0, 51, 34);
    }

    // ---- 17

    private static void waysAre(String why, String maze, int from, int to, long due) {
        Checks.still("17 ways: " + why, Mazes.holding(maze), h -> h.ways(from, to), due);
        Checks.still("17 ways: back, " + why, Mazes.holding(maze), h -> h.ways(to, from), due);
    }

    private static void ways() {
        Mazes.unknownButCells("17 ways: from", (h, cell) -> h.ways(cell, 0));
        Mazes.unknownButCells("17 ways: to", (h, cell) -> h.ways(0, cell));
        Mazes.unknownButCells("17 ways: both", (h, cell) -> h.ways(cell, cell));
        for (int cell : all()) {
            waysAre("a CELL to itself, alone", SHUT_36, cell, cell, 1);
            waysAre("a CELL to itself", OPEN_36, cell, cell, 1);
            if (cell != 23) waysAre("two PARTS", SHUT_36, cell, 23, 0);
            if (cell != 0) waysAre("one way", SNAKE_36, 0, cell, 1);
        }
        waysAre("two PARTS", RING, 0, 12, 0);
        waysAre("longer ones are not counted", RING, 0, 1, 1);
        waysAre("two", RING, 0, 11, 2);
        waysAre("the most", OPEN_36, 0, 55, 252);
        waysAre("the most, aslant", OPEN_36, 5, 50, 252);
        waysAre("along the rim", OPEN_36, 0, 5, 1);
        // asked twice, what was counted first must not count again
        Checks.still("17 ways: asked again", h -> {
            Mazes.holding(OPEN_36).on(h);
            h.ways(0, 55);
            h.ways(55, 0);
        }, h -> h.ways(0, 55), 252);
    }

    // ---- 18

    /** THE FIRST is just these cells; there is none ahead of them and none behind. */
    private static void stepsAre(String why, String maze, int from, int to, int... cells) {
        for (int k = 0; k < cells.length; k++) {
            int at = k;
            Checks.still("18 step: " + at + ", " + why, Mazes.holding(maze), h -> h.step(from, to, at), cells[k]);
        }
        for (int k : new int[] {cells.length, cells.length + 1, 36, 37, 48, 100, MAX}) {
            Checks.still("18 step: beyond the last, " + k, Mazes.holding(maze), h -> h.step(from, to, k), NONE);
        }
        for (int k : new int[] {-1, -2, -35, -36, MIN}) {
            Checks.still("18 step: below 0, " + k, Mazes.holding(maze), h -> h.step(from, to, k), NONE);
        }
    }

    private static void step() {
        Mazes.unknownButCells("18 step: from", (h, cell) -> h.step(cell, 0, 0));
        Mazes.unknownButCells("18 step: to", (h, cell) -> h.step(0, cell, 0));
        for (int k : new int[] {-1, MIN, 36, MAX}) {
            Checks.still("18 step: from UNKNOWN, k " + k, Mazes.holding(RING), h -> h.step(3, 0, k), UNKNOWN);
            Checks.still("18 step: to UNKNOWN, k " + k, Mazes.holding(RING), h -> h.step(0, 20, k), UNKNOWN);
        }
        stepsAre("one CELL to itself", RING, 11, 11, 11);
        stepsAre("one CELL to itself, alone", RING, 12, 12, 12);
        stepsAre("one CELL", "0", 0, 0, 0);
        stepsAre("two PARTS", RING, 0, 12);
        stepsAre("two PARTS", RING, 12, 0);
        stepFirst();
        stepLongest();
        stepAgain();
    }

    /** At each STEP the least SIDE, up ahead of right, right ahead of down, down ahead of left. */
    private static void stepFirst() {
        stepsAre("right ahead of down", OPEN_9, 0, 22, 0, 1, 2, 12, 22);
        stepsAre("up ahead of left", OPEN_9, 22, 0, 22, 12, 2, 1, 0);
        stepsAre("up ahead of right", OPEN_9, 20, 2, 20, 10, 0, 1, 2);
        stepsAre("down ahead of left", OPEN_9, 2, 20, 2, 12, 22, 21, 20);
        stepsAre("a least SIDE that goes no shortest way", RING, 1, 10, 1, 11, 10);
        stepsAre("a least SIDE that goes no way at all", "330/100/000", 1, 11, 1, 11);
        stepsAre("side by side", OPEN_9, 11, 10, 11, 10);
    }

    private static void stepLongest() {
        int[] cells = new int[36];
        int[] back = new int[36];
        for (int i = 0; i < 36; i++) {
            int row = i / 6;
            cells[i] = 10 * row + (row % 2 == 0 ? i % 6 : 5 - i % 6);
            back[35 - i] = cells[i];
        }
        stepsAre("the longest", SNAKE_36, 0, 50, cells);
        stepsAre("the longest, back", SNAKE_36, 50, 0, back);
    }

    /** Whatever was asked first, the answer is the same. */
    private static void stepAgain() {
        int[] cells = {0, 1, 2, 12, 22};
        for (int k = 0; k < cells.length; k++) {
            int at = k;
            Checks.still("18 step: asked again", h -> {
                Mazes.holding(OPEN_36).on(h);
                h.step(0, 55, 10);
                h.step(55, 0, 10);
            }, h -> h.step(0, 22, at), cells[k]);
        }
    }

    // ---- 19

    private static void widestIs(String why, String maze, int cell, int due) {
        Checks.still("19 widest: " + why, Mazes.holding(maze), h -> h.widest(cell), due);
    }

    private static void widest() {
        Mazes.unknownButCells("19 widest", HedgeWays::widest);
        for (int cell : all()) {
            widestIs("one CELL alone", SHUT_36, cell, 0);
            widestIs("all open", OPEN_36, cell, 10);
            widestIs("one way", SNAKE_36, cell, 35);
        }
        widestIs("one CELL", "0", 0, 0);
        widestIs("the one PART", RING, 0, 3);
        widestIs("from its end", RING, 2, 3);
        widestIs("the other PART", RING, 12, 0);
        widestIs("two PARTS, each by itself", SNAKE_10, 12, 9);
        widestIs("two PARTS, each by itself", SNAKE_10, 11, 25);
        widestIs("a ring", "32/10", 0, 2);
    }

    // ---- 20

    private static void handIs(String why, String maze, int a, int b, int side, boolean right, int due) {
        Checks.still("20 hand: " + why, Mazes.holding(maze, a, b), h -> h.hand(side, right), due);
    }

    private static void hand() {
        for (int k = 0; k < 2; k++) {
            boolean right = k == 1;
            Mazes.unknownButSides("20 hand", (h, side) -> h.hand(side, right));
            for (int side : Mazes.NO_SIDES) handIs("UNKNOWN, A is B", RING, 1, 1, side, right, UNKNOWN);
            for (int side = 0; side < 4; side++) {
                handIs("0, if A is B", OPEN_9, 11, 11, side, right, 0);
                handIs("0, if A is B, alone", RING, 12, 12, side, right, 0);
                handIs("B in another PART", RING, 0, 12, side, right, NONE);
                handIs("it can not go", RING, 12, 0, side, right, NONE);
                handIs("back alone", "10", 0, 1, side, right, 1);
                handIs("down alone", "2/0", 0, 10, side, right, 1);
                handIs("along one way", SNAKE_36, 0, 50, side, right, 35);
                handIs("along one way", SNAKE_36, 50, 0, side, right, 35);
            }
        }
        handTurns();
        handNever();
        handFirst();
    }

    /** In a star: one comes back from each end and goes into the next one by the hand. */
    private static void handTurns() {
        int[] ends = {1, 12, 21, 10};
        int[] byRight = {3, 1, 7, 5};
        int[] byLeft = {3, 5, 7, 1};
        for (int look = 0; look < 4; look++) {
            for (int quarter = 0; quarter < 4; quarter++) {
                int end = ends[(look + quarter) % 4];
                handIs("right, quarter " + quarter, STAR, 11, end, look, true, byRight[quarter]);
                handIs("left, quarter " + quarter, STAR, 11, end, look, false, byLeft[quarter]);
            }
        }
    }

    private static void handNever() {
        handIs("round inside a ring", RING, 0, 2, 0, true, NONE);
        handIs("round inside a ring", RING, 0, 2, 3, false, NONE);
        handIs("round outside of it", RING, 0, 2, 0, false, 2);
        handIs("round the rim", OPEN_9, 0, 11, 1, false, NONE);
        handIs("round the rim", OPEN_36, 0, 33, 2, true, NONE);
    }

    private static void handFirst() {
        handIs("till it is in B first, though it comes again", RING, 2, 1, 0, true, 1);
        handIs("round the rim to the CELL behind A", OPEN_36, 0, 10, 1, false, 19);
        handIs("round the rim to the CELL behind A", OPEN_36, 0, 1, 2, true, 19);
        handIs("to the end, back and to the other end", "111110", 4, 0, 1, true, 6);
    }

    // ---- 21

    private static void handAtIs(String why, String maze, int a, int b, int side, boolean right, int k, int due) {
        Checks.still("21 handAt: " + why + ", k " + k, Mazes.holding(maze, a, b), h -> h.handAt(side, right, k), due);
    }

    private static void handAt() {
        Mazes.badOutside("21 handAt: k", 0, 999, (h, k) -> h.handAt(1, true, k));
        Mazes.unknownButSides("21 handAt", (h, side) -> h.handAt(side, false, 7));
        for (int side : Mazes.NO_SIDES) {
            for (int k : new int[] {-1, 1000, MIN, MAX}) {
                handAtIs("UNKNOWN ahead of BAD", RING, 0, 2, side, true, k, UNKNOWN);
            }
        }
        for (int k : new int[] {-1, 1000, MIN, MAX}) {
            handAtIs("BAD, though it stands", RING, 12, 0, 0, true, k, BAD);
            handAtIs("BAD, though A is B", RING, 0, 0, 0, true, k, BAD);
        }
        handAtEnds();
        handAtStands();
        handAtGoesOn();
        handAtFirstStep();
    }

    private static void handAtEnds() {
        for (int side = 0; side < 4; side++) {
            handAtIs("where it begins", RING, 11, 2, side, true, 0, 11);
            handAtIs("to and fro", "10", 0, 1, side, true, 998, 0);
            handAtIs("to and fro, the last", "10", 0, 1, side, false, 999, 1);
        }
        // 70 steps to the end and back: 999 is 19 behind 14 rounds
        handAtIs("one way", SNAKE_36, 0, 50, 1, true, 35, 50);
        handAtIs("one way", SNAKE_36, 0, 50, 1, true, 36, 51);
        handAtIs("one way", SNAKE_36, 0, 50, 1, true, 70, 0);
        handAtIs("one way", SNAKE_36, 0, 50, 1, true, 999, 34);
    }

    private static void handAtStands() {
        for (int k : new int[] {0, 1, 2, 500, 999}) {
            for (int side = 0; side < 4; side++) {
                handAtIs("where it stands, if it can not go", RING, 12, 0, side, true, k, 12);
                handAtIs("where it stands, if it can not go", SHUT_36, 34, 0, side, false, k, 34);
            }
        }
    }

    private static void handAtGoesOn() {
        int[] right = {2, 1, 0, 10, 11, 1, 2, 1};
        int[] left = {2, 1, 11, 10, 0, 1, 2, 1};
        for (int k = 0; k < right.length; k++) {
            handAtIs("it goes on behind B", RING, 2, 1, 0, true, k, right[k]);
            handAtIs("it goes on behind B", RING, 2, 1, 0, false, k, left[k]);
            handAtIs("it goes on, A being B", RING, 2, 2, 0, true, k, right[k]);
        }
    }

    /** By the hand, else straight, else away from the hand, else back: from 11, whatever sides of it are open. */
    private static void handAtFirstStep() {
        int[] beside = {1, 12, 21, 10};
        int[][] orders = {{3, 0, 1, 2}, {1, 0, 3, 2}};
        for (int sides = 0; sides < 16; sides++) {
            String maze = "0" + (sides % 2 == 1 ? 2 : 0) + "0/" + sides / 8 + (sides / 2 % 2 + sides / 4 % 2 * 2) + "0/000";
            for (int look = 0; look < 4; look++) {
                for (int hand = 0; hand < 2; hand++) {
                    int due = 11;
                    for (int i = 3; i >= 0; i--) {
                        int side = (look + orders[hand][i]) % 4;
                        if ((sides >> side & 1) == 1) due = beside[side];
                    }
                    handAtIs("open " + sides + ", looking to " + look, maze, 11, 0, look, hand == 1, 1, due);
                }
            }
        }
    }

    // ---- 22, 23

    private static void threadIs(String why, String maze, int a, int b, int thread, int seen) {
        Checks.still("22 thread: " + why, Mazes.holding(maze, a, b), HedgeWays::thread, thread);
        Checks.still("23 seen: " + why, Mazes.holding(maze, a, b), HedgeWays::seen, seen);
    }

    private static void threadAndSeen() {
        for (int cell : all()) {
            threadIs("A is B", OPEN_36, cell, cell, 0, 1);
            threadIs("A is B, alone", SHUT_36, cell, cell, 0, 1);
            if (cell != 23) threadIs("B can not be reached, A alone", SHUT_36, 23, cell, NONE, 1);
        }
        threadIs("one CELL", "0", 0, 0, 0, 1);
        threadIs("B can not be reached", RING, 0, 12, NONE, 5);
        threadIs("B can not be reached, from the tail", RING, 2, 12, NONE, 5);
        threadIs("B can not be reached, alone", RING, 12, 2, NONE, 1);
        threadIs("B can not be reached, most of it", "111112/311110/111112/311110/111112/011110", 0, 50, NONE, 35);
        threadIs("one way", SNAKE_36, 0, 50, 35, 36);
        threadIs("one way, back", SNAKE_36, 50, 0, 35, 36);
        threadOrder();
        threadBack();
    }

    private static void threadOrder() {
        threadIs("the first SIDE, up", STAR, 11, 1, 1, 2);
        threadIs("then right", STAR, 11, 12, 3, 3);
        threadIs("then down", STAR, 11, 21, 5, 4);
        threadIs("then left", STAR, 11, 10, 7, 5);
        threadIs("all in vain", STAR, 11, 22, NONE, 5);
        threadIs("not where it was", "32/10", 0, 10, 3, 4);
        threadIs("right ahead of down", "32/10", 0, 1, 1, 2);
    }

    private static void threadBack() {
        threadIs("back from the tail", RING, 0, 10, 5, 5);
        threadIs("back to A and on", "111110", 1, 0, 9, 6);
        // a comb: row 0 along, each column down; into the last tooth first
        String comb = "333332/222222/222222/222222/222222/000000";
        threadIs("back from the end of row 0, tooth by tooth", comb, 0, 50, 65, 36);
        threadIs("the last tooth alone", comb, 0, 55, 10, 11);
        threadIs("the last tooth and the last but one", comb, 0, 54, 5 + 5 + 5 + 1 + 5, 16);
    }

    // ---- 24

    private static void lostIs(String why, String maze, int from, int to, long above, long below) {
        Checks.still("24 lost: above, " + why, Mazes.holding(maze), h -> h.lost(from, to, true), above);
        Checks.still("24 lost: below, " + why, Mazes.holding(maze), h -> h.lost(from, to, false), below);
    }

    private static void lostLate(String why, String maze, int from, int to) {
        lostIs("LATE, " + why, maze, from, to, LATE, LATE);
        lostIs("LATE, " + why, maze, to, from, LATE, LATE);
    }

    private static void lost() {
        for (int k = 0; k < 2; k++) {
            boolean upper = k == 1;
            Mazes.unknownButCells("24 lost: from", (h, cell) -> h.lost(cell, 0, upper));
            Mazes.unknownButCells("24 lost: to", (h, cell) -> h.lost(0, cell, upper));
        }
        for (int cell : new int[] {-1, 6, 60, 56, MIN, MAX}) {
            lostIs("UNKNOWN ahead of LATE", SNAKE_36, 0, cell, UNKNOWN, UNKNOWN);
            lostIs("UNKNOWN ahead of LATE", SNAKE_36, cell, 0, UNKNOWN, UNKNOWN);
        }
        lostInOneCell();
        lostOfTenCells();
        lostOfEleven();
        lostInTwoParts();
        lostInLeastTerms();
        lostAndTreesAgain();
    }

    private static void lostInOneCell() {
        lostIs("0 by 1 where both are one", "0", 0, 0, 0, 1);
        lostIs("0 by 1 where both are one, alone", RING, 12, 12, 0, 1);
        for (int cell : new int[] {0, 1, 2, 10, 11}) lostIs("0 by 1 where both are one", RING, cell, cell, 0, 1);
        lostIs("0 by 1 where both are one of 10", SNAKE_10, 3, 3, 0, 1);
        for (int cell : all()) lostIs("0 by 1 where both are one", SHUT_36, cell, cell, 0, 1);
    }

    private static void lostOfTenCells() {
        lostIs("10 CELLS in a line", SNAKE_10, 0, 12, 81, 1);
        lostIs("10 CELLS in a line", SNAKE_10, 12, 0, 81, 1);
        lostIs("10 CELLS in a line, one STEP", SNAKE_10, 0, 1, 1, 1);
        lostIs("10 CELLS in a line, from its middle", SNAKE_10, 4, 0, 56, 1);
        lostIs("10 CELLS, all open", "33332/11110", 0, 14, 585, 19);
        lostIs("10 CELLS, all open", "33332/11110", 0, 1, 951, 209);
        lostIs("10 CELLS, all open", "33332/11110", 2, 10, 5037, 209);
        lostIs("10 CELLS, all open", "33332/11110", 2, 12, 143, 19);
    }

    private static void lostOfEleven() {
        lostLate("11 CELLS", SNAKE_11, 0, 11);
        lostLate("11 CELLS, side by side", SNAKE_11, 0, 1);
        lostLate("11 CELLS, both are one", SNAKE_11, 0, 0);
        lostLate("26 CELLS", SNAKE_10, 11, 10);
        lostLate("36 CELLS", OPEN_36, 0, 55);
        lostLate("36 CELLS, both are one", OPEN_36, 33, 33);
    }

    private static void lostInTwoParts() {
        lostLate("two PARTS", RING, 0, 12);
        lostLate("two PARTS, one of 10, one of more", SNAKE_10, 12, 11);
        lostLate("two PARTS, both alone", "00", 0, 1);
        lostLate("two PARTS", SHUT_36, 0, 55);
    }

    private static void lostInLeastTerms() {
        lostIs("a ring, beside", "32/10", 0, 1, 3, 1);
        lostIs("a ring, across", "32/10", 0, 11, 4, 1);
        lostIs("a ring and a tail", RING, 1, 0, 9, 2);
        lostIs("from a tail", RING, 2, 0, 11, 2);
        lostIs("from an end of two", "10", 0, 1, 1, 1);
    }

    /** Whatever was asked first, the answers are the same. */
    private static void lostAndTreesAgain() {
        Checks.Calls before = h -> {
            Mazes.holding(SNAKE_10).on(h);
            h.lost(0, 12, true);
            h.trees(0);
            Checks.maze(h, RING);
            h.lost(1, 0, false);
        };
        Checks.still("24 lost: above, asked again", before, h -> h.lost(2, 0, true), 11);
        Checks.still("24 lost: below, asked again", before, h -> h.lost(2, 0, false), 2);
        Checks.still("24 lost: above, both are one, asked again", before, h -> h.lost(2, 2, true), 0);
        Checks.still("24 lost: below, both are one, asked again", before, h -> h.lost(2, 2, false), 1);
        Checks.still("25 trees: asked again", before, h -> h.trees(2), 4);
        Checks.still("25 trees: one alone, asked again", before, h -> h.trees(12), 1);
    }

    // ---- 25

    private static void treesAre(String why, String maze, int cell, long due) {
        Checks.still("25 trees: " + why, Mazes.holding(maze), h -> h.trees(cell), due);
    }

    private static void trees() {
        Mazes.unknownButCells("25 trees", HedgeWays::trees);
        for (int cell : new int[] {-1, 6, 60, 56, MIN, MAX}) treesAre("UNKNOWN ahead of LATE", OPEN_36, cell, UNKNOWN);
        for (int cell : all()) {
            treesAre("one CELL alone", SHUT_36, cell, 1);
            treesAre("LATE, 36 CELLS", OPEN_36, cell, LATE);
            treesAre("LATE, 36 CELLS", SNAKE_36, cell, LATE);
        }
        treesAre("one CELL", "0", 0, 1);
        treesAre("two CELLS", "10", 1, 1);
        treesAre("16 CELLS in a line", SNAKE_16, 0, 1);
        treesAre("16 CELLS in a line", SNAKE_16, 23, 1);
        treesAre("LATE, 20 CELLS beside 16", SNAKE_16, 24, LATE);
        treesAre("LATE, 17 CELLS in a line", SNAKE_17, 0, LATE);
        treesAre("LATE, 17 CELLS in a line", SNAKE_17, 24, LATE);
        treesOfOpen();
    }

    private static void treesOfOpen() {
        treesAre("a ring of four", "32/10", 11, 4);
        treesAre("a ring and a tail", RING, 2, 4);
        treesAre("beside a ring", RING, 12, 1);
        treesAre("9 CELLS", OPEN_9, 11, 192);
        int[] corners = {0, 3, 30, 33, 11};
        for (int cell : corners) {
            treesAre("16 CELLS, all open", "3332/3332/3332/1110", cell, 100352);
            treesAre("16 CELLS in 20", "33320/33320/33320/11100", cell, 100352);
            treesAre("LATE, 17 CELLS in 20", "33330/33320/33320/11100", cell, LATE);
        }
        treesAre("LATE, the 17th", "33330/33320/33320/11100", 4, LATE);
        treesAre("two rings", "3332/1010", 0, 16);
        treesAre("two rings, each by itself", "3232/1010", 0, 4);
    }
}
