/** Mazes that the tests of edges use, and objects that hold one, with a text, gates and something kept besides. */
final class Mazes {
    static final int UNKNOWN = -1, BAD = -2, LATE = -3, FULL = -4, NONE = -9;
    static final int MIN = Integer.MIN_VALUE, MAX = Integer.MAX_VALUE;

    /** Four cells in a ring (0, 1, 11, 10), a tail (2) right of the second, a cell alone (12). */
    static final String RING = "330/100";
    static final String OPEN_9 = "332/332/110";
    static final String OPEN_36 = "333332/333332/333332/333332/333332/111110";
    static final String SHUT_36 = "000000/000000/000000/000000/000000/000000";
    /** One way of 36 cells: to the right in row 0, to the left in row 1 and so on; it ends in 50. */
    static final String SNAKE_36 = "111112/311110/111112/311110/111112/111110";
    /** One way of 9 cells that ends in 22. */
    static final String SNAKE_9 = "112/310/110";

    private Mazes() {
    }

    /** An object with this maze and gates, another whole maze as its text, and one more in slot 0. */
    static Checks.Calls holding(String maze, int a, int b) {
        return h -> {
            Checks.maze(h, OPEN_9);
            h.gates(1, 20);
            h.keep(0);
            Checks.maze(h, maze);
            h.gates(a, b);
            Checks.text(h, "12/30/00");
        };
    }

    /** The same with cell 0 and the last cell as gates. */
    static Checks.Calls holding(String maze) {
        String[] rows = maze.split("/");
        return holding(maze, 0, 10 * (rows.length - 1) + rows[0].length() - 1);
    }

    static final int[] NO_SIDES = {-1, 4, 5, -4, 7, MIN, MAX, MIN + 1, 256, -256};

    /** Every number near to cells, and far ones that might wrap around to one. */
    static int[] numbers() {
        int[] far = {MIN, MIN + 1, MIN + 8, MAX, MAX - 7, 1 << 16, -(1 << 16), 1000, -1000, 256, -256, 1 << 30};
        int[] all = new int[161 + far.length];
        for (int i = 0; i < 161; i++) all[i] = i - 60;
        System.arraycopy(far, 0, all, 161, far.length);
        return all;
    }

    static boolean isCell(int number, int rows, int columns) {
        for (int r = 0; r < rows; r++) {
            for (int c = 0; c < columns; c++) {
                if (number == 10 * r + c) return true;
            }
        }
        return false;
    }

    /** A call is UNKNOWN for each number that is no cell and only for these, and changes nothing then. */
    static void unknownButCells(String what, Checks.AskOfCell ask) {
        String[] mazes = {"0", RING, "111110", "2/2/2/2/2/0", OPEN_36, "22/22/00"};
        for (String maze : mazes) {
            String[] rows = maze.split("/");
            for (int number : numbers()) {
                String call = what + " of " + number + " in " + maze;
                if (isCell(number, rows.length, rows[0].length())) {
                    HedgeWays h = Checks.maze(maze);
                    Checks.due(call + " is not UNKNOWN", ask.of(h, number) == UNKNOWN ? 1 : 0, 0);
                } else {
                    Checks.still(call, holding(maze), h -> ask.of(h, number), UNKNOWN);
                }
            }
        }
    }

    /** A call is UNKNOWN for what is no side, changes nothing then, and is not UNKNOWN for the four. */
    static void unknownButSides(String what, Checks.AskOfCell ask) {
        for (int side : NO_SIDES) {
            Checks.still(what + " of side " + side, holding(RING), h -> ask.of(h, side), UNKNOWN);
        }
        for (int side = 0; side < 4; side++) {
            HedgeWays h = Checks.maze(RING);
            Checks.due(what + " of side " + side + " is not UNKNOWN", ask.of(h, side) == UNKNOWN ? 1 : 0, 0);
        }
    }

    /** A call is BAD for numbers below the least and above the greatest, changes nothing then, and not BAD for these. */
    static void badOutside(String what, int least, int greatest, Checks.AskOfCell ask) {
        int[] outside = {least - 1, greatest + 1, least - 2, greatest + 2, -100, 2000, MIN, MAX, MIN + least, 1 << 16};
        for (int number : outside) {
            Checks.still(what + " of " + number, holding(RING, 2, 10), h -> ask.of(h, number), BAD);
        }
        for (int number = least; number <= greatest; number++) {
            HedgeWays h = new HedgeWays();
            holding(RING, 2, 10).on(h);
            Checks.due(what + " of " + number + " is not BAD", ask.of(h, number) == BAD ? 1 : 0, 0);
        }
    }
}
