/** Promises 11 to 15, with part 2 of the terms: a test of its own for each sentence that names an edge or a refusal. */
public final class EdgesFormTest {
    private static final int UNKNOWN = Mazes.UNKNOWN, LATE = Mazes.LATE;
    private static final String RING = Mazes.RING, SHUT_36 = Mazes.SHUT_36, OPEN_36 = Mazes.OPEN_36;
    private static final String SNAKE_36 = Mazes.SNAKE_36;
    /** One cell with four neighbours, which are dead ends; the corners are alone. */
    private static final String STAR = "020/130/000";

    private EdgesFormTest() {
    }

    public static void main(String[] args) {
        about();
        part();
        bridge();
        must();
        left();
        Checks.end("EdgesFormTest");
    }

    // ---- 11

    private static void about() {
        Mazes.badOutside("11 about", 0, 13, HedgeWays::about);
        aboutSmallest();
        aboutShut();
        aboutOpen();
        aboutSnake();
        aboutNeighbours();
        aboutBridges();
        aboutMustAndLeft();
        aboutText();
    }

    /** What about tells from CELLS (0) on. */
    private static void abouts(String maze, int a, int b, int... due) {
        for (int what = 0; what < due.length; what++) {
            int w = what;
            Checks.still("11 about(" + w + ") of " + maze + " A" + a + " B" + b, Mazes.holding(maze, a, b),
                    h -> h.about(w), due[w]);
        }
    }

    private static void aboutSmallest() {
        abouts("0", 0, 0, 1, 1, 1, 0, 1, 0, 0, 0, 0, 1, 1, 0, 0, 8);
        abouts("10", 0, 1, 2, 1, 2, 1, 1, 0, 2, 0, 1, 2, 2, 0, 1, 8);
        abouts("00", 0, 1, 2, 1, 2, 0, 2, 0, 0, 0, 0, 0, 2, 0, 1, 8);
        abouts("2/0", 10, 0, 2, 2, 1, 1, 1, 0, 2, 0, 1, 2, 2, 10, 0, 8);
        abouts("32/10", 0, 11, 4, 2, 2, 4, 1, 1, 0, 0, 0, 2, 4, 0, 11, 8);
    }

    private static void aboutShut() {
        abouts(SHUT_36, 0, 55, 36, 6, 6, 0, 36, 0, 0, 0, 0, 0, 2, 0, 55, 8);
        abouts(SHUT_36, 34, 34, 36, 6, 6, 0, 36, 0, 0, 0, 0, 1, 1, 34, 34, 8);
    }

    private static void aboutOpen() {
        abouts(OPEN_36, 0, 55, 36, 6, 6, 60, 1, 25, 0, 32, 0, 2, 36, 0, 55, 8);
        abouts(OPEN_36, 5, 5, 36, 6, 6, 60, 1, 25, 0, 32, 0, 1, 36, 5, 5, 8);
        abouts("111110", 0, 5, 6, 1, 6, 5, 1, 0, 2, 0, 5, 6, 6, 0, 5, 8);
        abouts("2/2/2/2/2/0", 0, 50, 6, 6, 1, 5, 1, 0, 2, 0, 5, 6, 6, 0, 50, 8);
    }

    private static void aboutSnake() {
        abouts(SNAKE_36, 0, 50, 36, 6, 6, 35, 1, 0, 2, 0, 35, 36, 36, 0, 50, 8);
        abouts(SNAKE_36, 0, 55, 36, 6, 6, 35, 1, 0, 2, 0, 35, 31, 31, 0, 55, 8);
        abouts(SNAKE_36, 55, 55, 36, 6, 6, 35, 1, 0, 2, 0, 35, 1, 1, 55, 55, 8);
    }

    /** A DEAD END has one NEIGHBOUR, not none and not two; a CROSS has three or four. */
    private static void aboutNeighbours() {
        aboutIs("none is no DEAD END", "00", 6, 0);
        aboutIs("one is a DEAD END", "10", 6, 2);
        aboutIs("A and B are DEAD ENDS, too", "110", 6, 2);
        aboutIs("two is no DEAD END", "32/10", 6, 0);
        aboutIs("two is no CROSS", "32/10", 7, 0);
        aboutIs("three is a CROSS", "120/000", 7, 0);
        aboutIs("three is a CROSS", "130/000", 7, 1);
        aboutIs("three is no DEAD END", "130/000", 6, 3);
        aboutIs("four is a CROSS", STAR, 7, 1);
        aboutIs("four is no DEAD END", STAR, 6, 4);
    }

    private static void aboutIs(String why, String maze, int what, int due) {
        Checks.still("11 about(" + what + "), " + why, Mazes.holding(maze), h -> h.about(what), due);
    }

    private static void aboutBridges() {
        aboutIs("a ring has no BRIDGE", "32/10", 8, 0);
        aboutIs("its tail is one", RING, 8, 1);
        aboutIs("a ring that is broken", "30/10", 8, 3);
        aboutIs("between two rings", "3232/1010", 8, 0);
        aboutIs("between two rings", "3332/1010", 8, 1);
        aboutIs("all of a star", STAR, 8, 4);
        aboutIs("LOOPS of two rings", "3332/1010", 5, 2);
        aboutIs("PARTS of two rings apart", "3232/1010", 4, 2);
        aboutIs("LOOPS of two rings apart", "3232/1010", 5, 2);
    }

    private static void aboutMustAndLeft() {
        abouts(RING, 0, 12, 6, 2, 3, 5, 2, 1, 1, 1, 1, 0, 5, 0, 12, 8);
        abouts(RING, 2, 10, 6, 2, 3, 5, 2, 1, 1, 1, 1, 3, 5, 2, 10, 8);
        abouts(RING, 12, 12, 6, 2, 3, 5, 2, 1, 1, 1, 1, 1, 5, 12, 12, 8);
        abouts(RING, 0, 11, 6, 2, 3, 5, 2, 1, 1, 1, 1, 2, 4, 0, 11, 8);
    }

    private static void aboutText() {
        Checks.still("11 about(13), THE TEXT empty", HedgeWays::wipe, h -> h.about(13), 0);
        Checks.still("11 about(13), THE TEXT full", h -> Checks.text(h, OPEN_36), h -> h.about(13), 41);
        Checks.still("11 about(0), THE TEXT is not THE MAZE", h -> Checks.text(h, OPEN_36), h -> h.about(0), 1);
    }

    // ---- 12

    private static void part() {
        Mazes.unknownButCells("12 part", HedgeWays::part);
        for (int r = 0; r < 6; r++) {
            for (int c = 0; c < 6; c++) {
                int cell = 10 * r + c;
                Checks.still("12 part: one alone", Mazes.holding(SHUT_36), h -> h.part(cell), cell);
                Checks.still("12 part: of all", Mazes.holding(OPEN_36), h -> h.part(cell), 0);
                Checks.still("12 part: of one way", Mazes.holding(SNAKE_36), h -> h.part(cell), 0);
            }
        }
        // 2 is less than 10, though it is on the right of all
        int[] cells = {0, 1, 2, 10, 11, 12};
        int[] least = {0, 1, 2, 2, 2, 2};
        for (int i = 0; i < cells.length; i++) {
            int cell = cells[i];
            Checks.still("12 part: the least CELL", Mazes.holding("002/110"), h -> h.part(cell), least[i]);
        }
    }

    // ---- 13

    private static void bridge() {
        for (int side = 0; side < 4; side++) {
            int s = side;
            Mazes.unknownButCells("13 bridge: side " + s, (h, cell) -> h.bridge(cell, s));
        }
        Mazes.unknownButSides("13 bridge", (h, side) -> h.bridge(11, side));
        bridgeLate();
        bridgeUnknownAheadOfLate();
        bridgeOfRing();
        bridgeOfAll();
    }

    private static void bridgeLate() {
        for (int side = 0; side < 4; side++) {
            int s = side;
            Checks.still("13 bridge: LATE, alone", Mazes.holding("000/000/000"), h -> h.bridge(11, s), LATE);
            Checks.still("13 bridge: LATE, the one alone", Mazes.holding(RING), h -> h.bridge(12, s), LATE);
        }
        int[][] rim = {{0, 0}, {0, 3}, {5, 0}, {5, 1}, {50, 2}, {50, 3}, {55, 1}, {55, 2}, {30, 3}, {35, 1}};
        for (int[] r : rim) {
            Checks.still("13 bridge: LATE, the rim", Mazes.holding(OPEN_36), h -> h.bridge(r[0], r[1]), LATE);
        }
        Checks.still("13 bridge: LATE, it is not open", Mazes.holding(RING), h -> h.bridge(2, 2), LATE);
    }

    private static void bridgeUnknownAheadOfLate() {
        for (int side : Mazes.NO_SIDES) {
            Checks.still("13 bridge: no SIDE of one alone", Mazes.holding("0"), h -> h.bridge(0, side), UNKNOWN);
            Checks.still("13 bridge: no SIDE, no CELL", Mazes.holding("0"), h -> h.bridge(1, side), UNKNOWN);
        }
    }

    private static void bridgeOfRing() {
        int[][] sides = {{0, 1, 0}, {0, 2, 0}, {1, 3, 0}, {1, 2, 0}, {10, 0, 0}, {10, 1, 0}, {11, 0, 0}, {11, 3, 0},
            {1, 1, 1}, {2, 3, 1}};
        for (int[] s : sides) {
            Checks.still("13 bridge: of a ring and its tail", Mazes.holding(RING), h -> h.bridge(s[0], s[1]), s[2]);
        }
        Checks.still("13 bridge: up and down", Mazes.holding("2/0"), h -> h.bridge(0, 2), 1);
        Checks.still("13 bridge: up and down", Mazes.holding("2/0"), h -> h.bridge(10, 0), 1);
    }

    private static void bridgeOfAll() {
        int[] moves = {-10, 1, 10, -1};
        for (int r = 1; r < 5; r++) {
            for (int c = 1; c < 5; c++) {
                for (int side = 0; side < 4; side++) {
                    int cell = 10 * r + c;
                    int s = side;
                    Checks.still("13 bridge: all open", Mazes.holding(OPEN_36), h -> h.bridge(cell, s), 0);
                    // a snake of six rows is open to the sides alone but at its turns
                    Checks.still("13 bridge: one way, from " + cell + " to " + (cell + moves[s]), Mazes.holding(SNAKE_36),
                            h -> h.bridge(cell, s), s % 2 == 1 ? 1 : LATE);
                }
            }
        }
    }

    // ---- 14, 15

    /** A call for each cell of a maze, row by row. */
    private static void each(String what, String maze, int a, int b, Checks.AskOfCell ask, String due) {
        String[] rows = maze.split("/");
        int columns = rows[0].length();
        for (int i = 0; i < due.length(); i++) {
            int cell = 10 * (i / columns) + i % columns;
            Checks.still(what + " of " + cell + " in " + maze + " A" + a + " B" + b, Mazes.holding(maze, a, b),
                    h -> ask.of(h, cell), due.charAt(i) - '0');
        }
    }

    private static void musts(String why, String maze, int a, int b, String due) {
        each("14 must, " + why, maze, a, b, HedgeWays::must, due);
    }

    private static void must() {
        Mazes.unknownButCells("14 must", HedgeWays::must);
        musts("none, if one can not", RING, 0, 12, "000000");
        musts("none, if one can not", RING, 12, 0, "000000");
        musts("none, if one can not", "00/00", 0, 11, "0000");
        musts("A is B", RING, 1, 1, "010000");
        musts("A is B, alone", RING, 12, 12, "000001");
        musts("A is B, all open", Mazes.OPEN_9, 11, 11, "000010000");
        musts("both of these, too", "32/10", 0, 11, "1001");
        musts("both of these, side by side", "32/10", 0, 1, "1100");
        musts("what is between", RING, 2, 10, "011100");
        musts("from B to A", RING, 10, 2, "011100");
        musts("all of one way", Mazes.SNAKE_9, 0, 22, "111111111");
        musts("not what is behind", Mazes.SNAKE_9, 12, 20, "000111100");
        musts("the one in a star", STAR, 1, 21, "010010010");
        musts("CELL 0 between", "30/00", 1, 10, "1110");
        musts("the last CELL between", "02/10", 1, 10, "0111");
    }

    private static void lefts(String why, String maze, int a, int b, String due) {
        each("15 left, " + why, maze, a, b, HedgeWays::left, due);
    }

    private static void left() {
        Mazes.unknownButCells("15 left", HedgeWays::left);
        lefts("no NEIGHBOUR at all", "00/00", 0, 11, "1001");
        lefts("no NEIGHBOUR at all, A is B", "00/00", 1, 1, "0100");
        lefts("one CELL", "0", 0, 0, "1");
        lefts("a tail is shut", RING, 0, 11, "110110");
        lefts("but A and B", RING, 2, 12, "111111");
        lefts("again and again", Mazes.SNAKE_9, 0, 0, "100000000");
        lefts("again and again, from both ends", Mazes.SNAKE_9, 11, 11, "000010000");
        lefts("what is between", Mazes.SNAKE_9, 12, 20, "000111100");
        lefts("a ring is left, no gate in it", RING, 12, 12, "110111");
        lefts("a PART without a gate is shut", "10/10", 0, 1, "1100");
        lefts("a star", STAR, 1, 21, "010010010");
        lefts("a star, one gate in it", STAR, 1, 0, "110000000");
        lefts("a star, no gate in it", STAR, 0, 0, "100000000");
        lefts("all of it", Mazes.OPEN_9, 0, 22, "111111111");
        lefts("A and B apart in DEAD ENDS", "10/10", 0, 11, "1001");
        lefts("CELL 0 between", "30/00", 1, 10, "1110");
        lefts("CELL 0 is shut", "32/00", 10, 10, "0010");
        lefts("the last CELL is shut", "02/10", 1, 1, "0100");
    }
}
