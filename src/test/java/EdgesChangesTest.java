/** Promises 26 to 29: a test of its own for each sentence that names an edge or a refusal. */
public final class EdgesChangesTest {
    private static final int UNKNOWN = Mazes.UNKNOWN, NONE = Mazes.NONE, MIN = Mazes.MIN, MAX = Mazes.MAX;
    private static final String RING = Mazes.RING, SHUT_36 = Mazes.SHUT_36, OPEN_36 = Mazes.OPEN_36;
    private static final String SNAKE_36 = Mazes.SNAKE_36, SNAKE_9 = Mazes.SNAKE_9;

    private EdgesChangesTest() {
    }

    public static void main(String[] args) {
        breaks();
        shortCut();
        bar();
        chase();
        Checks.end("EdgesChangesTest");
    }

    // ---- 26

    private static void breaksAre(String why, String maze, int from, int to, int due) {
        Checks.still("26 breaks: " + why, Mazes.holding(maze), h -> h.breaks(from, to), due);
        Checks.still("26 breaks: back, " + why, Mazes.holding(maze), h -> h.breaks(to, from), due);
    }

    private static void breaks() {
        Mazes.unknownButCells("26 breaks: from", (h, cell) -> h.breaks(cell, 0));
        Mazes.unknownButCells("26 breaks: to", (h, cell) -> h.breaks(0, cell));
        Mazes.unknownButCells("26 breaks: both", (h, cell) -> h.breaks(cell, cell));
        for (int r = 0; r < 6; r++) {
            for (int c = 0; c < 6; c++) {
                int cell = 10 * r + c;
                breaksAre("a CELL to itself, alone", SHUT_36, cell, cell, 0);
                breaksAre("all shut", SHUT_36, 0, cell, r + c);
                breaksAre("all shut", SHUT_36, 5, cell, r + 5 - c);
                breaksAre("none in the way", SNAKE_36, 0, cell, 0);
                breaksAre("all open", OPEN_36, cell, 33, 0);
            }
        }
        breaksAre("two PARTS", RING, 12, 0, 1);
        breaksAre("no further than THE MAZE reaches", "000000", 0, 5, 5);
        breaksAre("no further than THE MAZE reaches", "0/0/0/0/0/0", 0, 50, 5);
        breaksAre("the fewest HEDGES, not the fewest STEPS", "202/100", 0, 2, 1);
        breaksAre("the fewest HEDGES, not the fewest STEPS", SNAKE_9, 0, 10, 0);
        breaksAre("of two ways the better one", "000/110/000", 0, 22, 2);
    }

    // ---- 27

    private static void shortCutIs(String why, String maze, int a, int b, int due) {
        Checks.still("27 shortCut: " + why, Mazes.holding(maze, a, b), HedgeWays::shortCut, due);
    }

    private static void shortCut() {
        shortCutNone();
        shortCutWhereThereIsNoWay();
        shortCutOfLikeOnes();
        shortCutIs("what it shortens most", SNAKE_9, 1, 22, 122);
        shortCutIs("straight", SNAKE_9, 12, 22, 122);
        shortCutIs("the way back", SNAKE_9, 22, 12, 122);
        shortCutIs("of 35 STEPS", SNAKE_36, 0, 50, 2);
    }

    private static void shortCutNone() {
        shortCutIs("A is B", "0", 0, 0, NONE);
        shortCutIs("A is B, all shut", SHUT_36, 22, 22, NONE);
        shortCutIs("A is B, one way", SNAKE_9, 11, 11, NONE);
        shortCutIs("no HEDGE at all", OPEN_36, 0, 55, NONE);
        shortCutIs("no HEDGE at all", "10", 0, 1, NONE);
        shortCutIs("none makes it less than 1", "100/000", 0, 1, NONE);
        shortCutIs("none makes it less than 2", RING, 0, 11, NONE);
        shortCutIs("like is not less", "32/00", 0, 1, NONE);
        shortCutIs("one is not enough", "00/00", 0, 11, NONE);
        shortCutIs("one is not enough", "000", 0, 2, NONE);
        shortCutIs("one is not enough", SHUT_36, 0, 55, NONE);
    }

    private static void shortCutWhereThereIsNoWay() {
        shortCutIs("any way is less: to the right", "00", 0, 1, 1);
        shortCutIs("any way is less: to the left", "00", 1, 0, 1);
        shortCutIs("any way is less: down", "0/0", 0, 10, 2);
        shortCutIs("any way is less: up", "0/0", 10, 0, 2);
        shortCutIs("told by the CELL above", "00/00", 11, 1, 12);
        shortCutIs("told by the CELL on the left", "00/00", 11, 10, 101);
        shortCutIs("the last HEDGE", SHUT_36, 54, 55, 541);
        shortCutIs("the last HEDGE down", SHUT_36, 55, 45, 452);
        shortCutIs("the shorter one, not the first one", RING, 10, 12, 111);
        // 40 is 24 steps from A, 51 is 34
        shortCutIs("a long way is less than none", "111112/311110/111112/311110/111112/011110", 0, 50, 402);
        shortCutIs("not from a PART where A is not", "10/00", 0, 10, 2);
    }

    private static void shortCutOfLikeOnes() {
        shortCutIs("of like ones the least CELL", SNAKE_9, 0, 22, 2);
        shortCutIs("of like ones the least CELL", RING, 0, 12, 22);
        shortCutIs("of like ones the least SIDE", "02/10", 0, 11, 1);
        shortCutIs("of like ones the least SIDE, from B", "02/10", 11, 0, 1);
    }

    // ---- 28

    private static void barIs(String why, String maze, int a, int b, int due) {
        Checks.still("28 bar: " + why, Mazes.holding(maze, a, b), HedgeWays::bar, due);
    }

    private static void bar() {
        barNone();
        barOfRing();
        barOfLikeOnes();
        // shut at 0 there is a little way round, shut at 1 a great one
        barIs("the greatest", "332/122/010", 0, 2, 11);
        barIs("the greatest, the way back", "332/122/010", 2, 0, 11);
        barIs("there still being a way", "332/102/000", 0, 2, 1);
        barIs("the last opening", OPEN_36, 54, 55, 541);
        barIs("the last opening down", OPEN_36, 45, 55, 452);
    }

    private static void barNone() {
        barIs("A is B", "0", 0, 0, NONE);
        barIs("A is B, all open", OPEN_36, 22, 22, NONE);
        barIs("A is B, a ring", "32/10", 0, 0, NONE);
        barIs("no opening", "00", 0, 1, NONE);
        barIs("no way from A to B", RING, 0, 12, NONE);
        barIs("no way from A to B", RING, 12, 0, NONE);
        barIs("no way from A to B", SHUT_36, 0, 55, NONE);
        barIs("there would be no way", "10", 0, 1, NONE);
        barIs("there would be no way", SNAKE_36, 0, 50, NONE);
        barIs("there would be no way", RING, 1, 2, NONE);
        barIs("none makes it greater", "32/10", 0, 11, NONE);
        barIs("none makes it greater", OPEN_36, 0, 55, NONE);
    }

    private static void barOfRing() {
        barIs("told by the CELL on the left", RING, 0, 1, 1);
        barIs("told by the CELL on the left", RING, 1, 0, 1);
        barIs("told by the CELL on the left", RING, 10, 11, 101);
        barIs("told by the CELL above", RING, 0, 10, 2);
        barIs("told by the CELL above", RING, 11, 1, 12);
        barIs("behind a BRIDGE", RING, 2, 0, 1);
        barIs("behind a BRIDGE", RING, 2, 11, 12);
    }

    private static void barOfLikeOnes() {
        barIs("of like ones the least CELL", Mazes.OPEN_9, 0, 2, 1);
        barIs("of like ones the least CELL", OPEN_36, 50, 52, 501);
        // a ring of ten: shut at 0, to the right or down, the way is eight
        barIs("of like ones the least SIDE", "3112/2002/1110", 10, 1, 1);
    }

    // ---- 29

    private static void chaseIs(String why, String maze, int b, int runner, int hunter, int home, int caught) {
        String told = why + ", B " + b + ", RUNNER " + runner + ", HUNTER " + hunter + " in " + maze;
        Checks.still("29 chase: HOME, " + told, Mazes.holding(maze, 0, b), h -> h.chase(runner, hunter, true), home);
        Checks.still("29 chase: CAUGHT, " + told, Mazes.holding(maze, 0, b), h -> h.chase(runner, hunter, false), caught);
    }

    private static void chase() {
        chaseUnknown();
        chaseBeginsInOneCell();
        chaseBeginsInB();
        chaseIntoTheHunter();
        chaseAheadOfTheHunter();
        chaseInTwoParts();
        chaseRoundARing();
        chaseLongest();
        chaseAgain();
    }

    private static void chaseUnknown() {
        for (int k = 0; k < 2; k++) {
            boolean home = k == 1;
            Mazes.unknownButCells("29 chase: RUNNER", (h, cell) -> h.chase(cell, 0, home));
            Mazes.unknownButCells("29 chase: HUNTER", (h, cell) -> h.chase(0, cell, home));
            Mazes.unknownButCells("29 chase: both", (h, cell) -> h.chase(cell, cell, home));
        }
        for (int cell : new int[] {-1, 3, 20, MIN, MAX}) {
            chaseIs("UNKNOWN, though the RUNNER is in B", RING, 2, 2, cell, UNKNOWN, UNKNOWN);
        }
    }

    private static void chaseBeginsInOneCell() {
        for (int cell : new int[] {0, 1, 10, 11, 12}) {
            chaseIs("both in one CELL at the beginning", RING, 2, cell, cell, NONE, 0);
        }
        chaseIs("both in one CELL at the beginning, alone", SHUT_36, 0, 34, 34, NONE, 0);
        chaseIs("both in B at the beginning", RING, 2, 2, 2, 0, NONE);
        chaseIs("both in B at the beginning, alone", RING, 12, 12, 12, 0, NONE);
        chaseIs("one CELL alone", "0", 0, 0, 0, 0, NONE);
    }

    private static void chaseBeginsInB() {
        for (int hunter : new int[] {0, 1, 2, 10, 11, 12}) {
            for (int b : new int[] {0, 1, 2, 10, 11, 12}) {
                chaseIs("the RUNNER in B at the beginning", RING, b, b, hunter, 0, NONE);
            }
        }
    }

    private static void chaseIntoTheHunter() {
        chaseIs("the HUNTER stands in B", "10", 1, 0, 1, NONE, 1);
        chaseIs("the HUNTER stands in B", "10", 0, 1, 0, NONE, 1);
        chaseIs("the HUNTER stands between", "110", 2, 0, 1, NONE, 1);
        chaseIs("the HUNTER comes from B", "110", 2, 0, 2, NONE, 2);
        chaseIs("the HUNTER comes from B, the RUNNER flees", "110", 2, 1, 2, NONE, 2);
        chaseIs("the HUNTER stands in B, four in a ring", "32/10", 0, 1, 0, NONE, NONE);
        chaseIs("the HUNTER stands in B, four in a ring", "32/10", 0, 11, 0, NONE, NONE);
    }

    /** The RUNNER wins, if it is in B ahead of the HUNTER's turn. */
    private static void chaseAheadOfTheHunter() {
        chaseIs("the HUNTER is behind", "110", 2, 1, 0, 1, NONE);
        chaseIs("the HUNTER is beside B", "1110", 1, 0, 2, 1, NONE);
        chaseIs("the HUNTER is in B one turn ahead", "11110", 2, 0, 3, NONE, 3);
        chaseIs("the RUNNER is in B one turn ahead", "11110", 2, 0, 4, 2, NONE);
        chaseIs("the RUNNER has B between", "11110", 2, 1, 3, 1, NONE);
        chaseIs("the HUNTER is behind", "111110", 5, 2, 0, 3, NONE);
        chaseIs("the HUNTER catches it just ahead of B", "1110/0000", 3, 1, 2, NONE, 2);
    }

    private static void chaseInTwoParts() {
        chaseIs("the HUNTER is elsewhere", RING, 2, 10, 12, 3, NONE);
        chaseIs("the HUNTER is elsewhere", SNAKE_9 + "/000", 0, 22, 31, 8, NONE);
        chaseIs("the HUNTER is alone in CELL 0", "0110/0000", 3, 1, 0, 2, NONE);
        chaseIs("the HUNTER is alone in the last CELL", "1100/0000", 0, 2, 13, 2, NONE);
        chaseIs("the RUNNER is elsewhere", RING, 2, 12, 0, NONE, NONE);
        chaseIs("all three are apart", SHUT_36, 0, 34, 43, NONE, NONE);
        chaseIs("B is elsewhere", RING, 12, 2, 1, NONE, 1);
        chaseIs("B is elsewhere, round the ring", RING, 12, 10, 2, NONE, NONE);
        chaseIs("B is elsewhere, in a line", "1110/0000", 10, 0, 3, NONE, 3);
        chaseIs("B is elsewhere, in a line", "1110/0000", 10, 1, 2, NONE, 2);
    }

    private static void chaseRoundARing() {
        chaseIs("side by side in a ring", RING, 2, 0, 10, 2, NONE);
        chaseIs("across in a ring", RING, 2, 0, 11, NONE, NONE);
        chaseIs("the HUNTER in the tail", RING, 2, 11, 2, NONE, NONE);
        chaseIs("the HUNTER side by side", RING, 2, 1, 0, 1, NONE);
        chaseIs("the HUNTER side by side", RING, 2, 11, 10, 2, NONE);
        chaseIs("B in the ring, across", "32/10", 11, 0, 1, NONE, NONE);
        chaseIs("B in the ring, side by side", "32/10", 1, 0, 11, 1, NONE);
    }

    /** One way of 36 cells: 25 is the one behind 17 steps, 35 the one behind 18. */
    private static void chaseLongest() {
        chaseIs("35 turns", SNAKE_36, 50, 0, 50, NONE, 35);
        chaseIs("34 turns", SNAKE_36, 50, 1, 0, 34, NONE);
        chaseIs("the RUNNER is in B just in time", SNAKE_36, 25, 0, 50, 17, NONE);
        chaseIs("the HUNTER is in B just in time", SNAKE_36, 35, 0, 50, NONE, 35);
    }

    /** Whatever was asked first, the answer is the same. */
    private static void chaseAgain() {
        for (int k = 0; k < 2; k++) {
            boolean first = k == 1;
            Checks.Calls before = h -> {
                Mazes.holding(SNAKE_36, 0, 50).on(h);
                h.chase(1, 0, first);
                h.chase(0, 50, first);
            };
            Checks.still("29 chase: HOME, asked again", before, h -> h.chase(1, 0, true), 34);
            Checks.still("29 chase: CAUGHT, asked again", before, h -> h.chase(0, 50, false), 35);
            Checks.still("29 chase: HOME, NONE again", before, h -> h.chase(0, 50, true), NONE);
            Checks.still("29 chase: CAUGHT, NONE again", before, h -> h.chase(1, 0, false), NONE);
        }
    }
}
