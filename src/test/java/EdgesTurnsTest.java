/** Promises 30 to 33: a test of its own for each sentence that names an edge or a refusal. */
public final class EdgesTurnsTest {
    private static final int UNKNOWN = Mazes.UNKNOWN, LATE = Mazes.LATE, NONE = Mazes.NONE;
    private static final int MIN = Mazes.MIN, MAX = Mazes.MAX;
    private static final String RING = Mazes.RING, SHUT_36 = Mazes.SHUT_36, OPEN_36 = Mazes.OPEN_36;
    private static final String OPEN_9 = Mazes.OPEN_9;
    private static final int[] NO_SLOTS = {-1, 2, 3, -2, 256, -256, MIN, MAX};

    private EdgesTurnsTest() {
    }

    public static void main(String[] args) {
        same();
        turn();
        keep();
        again();
        Checks.end("EdgesTurnsTest");
    }

    // ---- 30

    /** What same answers for t from 0 to 7; turn answers the contrary. */
    private static void sames(String why, String maze, String due) {
        for (int turned = 0; turned < 8; turned++) {
            int t = turned;
            int is = due.charAt(t) - '0';
            Checks.still("30 same: by " + t + ", " + why, Mazes.holding(maze), h -> h.same(t), is);
            HedgeWays h = new HedgeWays();
            Mazes.holding(maze).on(h);
            Checks.due("31 turn: whether that changed it, by " + t + ", " + why, h.turn(t), 1 - is);
        }
    }

    private static void same() {
        Mazes.badOutside("30 same", 0, 7, HedgeWays::same);
        sames("one CELL", "0", "11111111");
        sames("all shut", SHUT_36, "11111111");
        sames("all open", OPEN_36, "11111111");
        sames("a star", "020/130/000", "11111111");
        sames("nothing but as it is", RING, "10000000");
        sames("nothing but as it is, square", "120/020/000", "10000000");
        samesOfRowsAndColumns();
        samesOfSome();
        sameSetsGatesAside();
    }

    /** ROWS and COLUMNS not alike: no odd t leaves it the same, were all else so. */
    private static void samesOfRowsAndColumns() {
        sames("one ROW", "111110", "10101010");
        sames("one COLUMN", "2/2/2/2/2/0", "10101010");
        sames("one ROW, shut", "00", "10101010");
        sames("two ROWS of three, shut", "000/000", "10101010");
        sames("two ROWS of three, open", "332/110", "10101010");
        sames("three ROWS of two, open", "32/32/10", "10101010");
    }

    private static void samesOfSome() {
        sames("by quarters, not mirrored", "102/200/010", "11110000");
        sames("by halves, not mirrored", "100/000/010", "10100000");
        sames("by halves, not mirrored", Mazes.SNAKE_9, "10100000");
        sames("mirrored left to right", "10/00", "10001000");
        sames("mirrored and a quarter", "12/00", "10000100");
        sames("mirrored and two quarters", "20/00", "10000010");
        sames("mirrored and three quarters", "30/00", "10000001");
        sames("mirrored and two quarters", Mazes.SNAKE_36, "10000010");
    }

    private static void sameSetsGatesAside() {
        for (int turned = 0; turned < 8; turned++) {
            int t = turned;
            Checks.still("30 same: A and B are set aside", Mazes.holding(OPEN_9, 1, 20), h -> h.same(t), 1);
        }
    }

    // ---- 31

    private static void turns(String maze, int a, int b, String... due) {
        for (int turned = 0; turned < 8; turned++) {
            int t = turned;
            Checks.then("31 turn: by " + t, Mazes.holding(maze, a, b), h -> h.turn(t), t == 0 ? 0 : 1, due[t]);
        }
    }

    private static void turn() {
        Mazes.badOutside("31 turn", 0, 7, HedgeWays::turn);
        turnsOfUnlikeSides();
        turnsOfSquares();
        turnsOfLines();
        turnGatesAlone();
        turnStays();
        turnsTogether();
        turnedRimAndWays();
    }

    /** The mazes were turned by another program. */
    private static void turnsOfUnlikeSides() {
        turns("310/000", 1, 12, "310/000 A1 B12", "12/02/00 A11 B20", "002/110 A11 B0", "20/20/10 A10 B1",
                "112/000 A1 B10", "02/02/10 A11 B0", "200/110 A11 B2", "30/20/00 A10 B21");
        turns("3112/2300/1110", 3, 21, "3112/2300/1110 A3 B21", "312/322/202/010 A32 B10", "1132/2102/1110 A20 B2",
                "302/222/212/110 A0 B22", "3112/0122/1110 A0 B22", "212/222/302/110 A2 B20", "3310/2102/1110 A23 B1",
                "312/232/202/100 A30 B12");
    }

    private static void turnsOfSquares() {
        turns("121112/223232/222220/222212/210112/111110", 13, 52,
                "121112/223232/222220/222212/210112/111110 A13 B52",
                "311102/231110/211122/231102/223122/110110 A34 B20",
                "311112/312322/122222/222222/301020/111010 A42 B3",
                "330332/211022/231102/011122/311102/011110 A21 B35",
                "311030/323222/022222/302222/310102/111110 A12 B53",
                "332132/221102/211122/231100/211112/111100 A24 B30",
                "311112/232312/222230/222222/021012/101110 A43 B2",
                "211112/111122/231102/211122/231222/110110 A31 B25");
    }

    private static void turnsOfLines() {
        Checks.Calls row = Mazes.holding("111110");
        Checks.then("31 turn: a ROW by a quarter", row, h -> h.turn(1), 1, "2/2/2/2/2/0 A0 B50");
        Checks.then("31 turn: a ROW by a half", row, h -> h.turn(2), 0, "111110 A5 B0");
        Checks.then("31 turn: a ROW by three quarters", row, h -> h.turn(3), 1, "2/2/2/2/2/0 A50 B0");
        Checks.then("31 turn: a ROW mirrored", row, h -> h.turn(4), 0, "111110 A5 B0");
        Checks.then("31 turn: a ROW mirrored and a quarter", row, h -> h.turn(5), 1, "2/2/2/2/2/0 A50 B0");
        Checks.then("31 turn: a ROW mirrored and a half", row, h -> h.turn(6), 0, "111110 A0 B5");
        Checks.then("31 turn: a ROW mirrored and three quarters", row, h -> h.turn(7), 1, "2/2/2/2/2/0 A0 B50");
    }

    /** That changed nothing but A and B: 0, and they are turned. */
    private static void turnGatesAlone() {
        String[] gates = {"A1 B20", "A12 B0", "A21 B2", "A10 B22", "A1 B22", "A12 B20", "A21 B0", "A10 B2"};
        for (int turned = 0; turned < 8; turned++) {
            int t = turned;
            Checks.then("31 turn: A and B, too", Mazes.holding(OPEN_9, 1, 20), h -> h.turn(t), 0, OPEN_9 + " " + gates[t]);
        }
        Checks.then("31 turn: ROWS and COLUMNS alone", Mazes.holding("000/000"), h -> h.turn(1), 1, "00/00/00 A1 B20");
    }

    private static void turnStays() {
        for (int t = 0; t < 8; t++) {
            HedgeWays h = new HedgeWays();
            Mazes.holding(RING, 2, 10).on(h);
            h.turn(t);
            Checks.due("31 turn: THE TEXT stays", h.about(13), 8);
            Checks.due("31 turn: THE TEXT stays", h.fault(), NONE);
            Checks.due("31 turn: what was kept stays", h.again(0), 9);
            Checks.due("31 turn: what was kept stays", Checks.told(h), OPEN_9 + " A1 B20");
            Checks.due("31 turn: THE TEXT stays", h.maze(), 6);
            Checks.due("31 turn: THE TEXT stays", Checks.told(h), "12/30/00 A0 B21");
        }
    }

    private static void turnsTogether() {
        int[] back = {0, 3, 2, 1, 4, 5, 6, 7};
        for (int turned = 0; turned < 8; turned++) {
            int t = turned;
            Checks.still("31 turn: by " + t + " and back", Mazes.holding("3112/2300/1110", 3, 21), h -> {
                h.turn(t);
                return h.turn(back[t]);
            }, t == 0 ? 0 : 1);
        }
        Checks.still("31 turn: four quarters", Mazes.holding("3112/2300/1110", 3, 21),
                h -> h.turn(1) + h.turn(1) + h.turn(1) + h.turn(1), 4);
    }

    /** A ROW become a COLUMN is one for all that can be asked of it. */
    private static void turnedRimAndWays() {
        Checks.Calls turned = h -> {
            Mazes.holding("111110").on(h);
            h.turn(1);
        };
        Checks.still("31 turn: a side is the rim then", turned, h -> h.hedge(0, 1, true), LATE);
        Checks.still("31 turn: the end is the rim then", turned, h -> h.hedge(50, 2, true), LATE);
        Checks.still("31 turn: a CELL that is no more", turned, h -> h.open(1, 1), UNKNOWN);
        Checks.still("31 turn: one goes down", turned, h -> h.far(0, 50), 5);
        Checks.still("31 turn: one PART", turned, h -> h.about(4), 1);
        Checks.then("31 turn: a HEDGE can be put in", turned, h -> h.hedge(40, 2, false), 1, "2/2/2/2/0/0 A0 B50");
    }

    // ---- 32

    private static void keep() {
        for (int slot : NO_SLOTS) {
            Checks.still("32 keep: UNKNOWN, " + slot, Mazes.holding(RING, 2, 10), h -> h.keep(slot), UNKNOWN);
            Checks.still("32 keep: UNKNOWN, " + slot + ", none kept", HedgeWays::wipe, h -> h.keep(slot), UNKNOWN);
        }
        keepOfSizes();
        keepLeavesTheRest();
        keepOver();
        keepIsACopy();
    }

    private static void keepOfSizes() {
        String[] mazes = {"0", "111110", "2/2/2/2/2/0", RING, OPEN_36, SHUT_36};
        int[] cells = {1, 6, 6, 6, 36, 36};
        int[] last = {0, 5, 50, 12, 55, 55};
        for (int slot = 0; slot < 2; slot++) {
            for (int i = 0; i < mazes.length; i++) {
                HedgeWays h = new HedgeWays();
                Mazes.holding(mazes[i], last[i], 0).on(h);
                Checks.due("32 keep: how many CELLS", h.keep(slot), cells[i]);
                h.make(3, 2, 7L, 0);
                Checks.due("33 again: how many CELLS", h.again(slot), cells[i]);
                Checks.due("33 again: THE MAZE, A and B", Checks.told(h), mazes[i] + " A" + last[i] + " B0");
            }
        }
    }

    private static void keepLeavesTheRest() {
        HedgeWays h = new HedgeWays();
        Mazes.holding(RING, 2, 10).on(h);
        h.keep(1);
        Checks.due("32 keep: all else stays; all of it", Checks.whole(h), RING
                + " A2 B10, about 5 2 1 1 1 1 3 5; 8 bytes, fault -9; slot 0 9 " + OPEN_9
                + " A1 B20; slot 1 6 " + RING + " A2 B10; the text 6 12/30/00 A0 B21");
    }

    private static void keepOver() {
        for (int slot = 0; slot < 2; slot++) {
            HedgeWays h = Checks.maze(OPEN_36);
            h.keep(slot);
            Checks.maze(h, RING).gates(2, 10);
            Checks.due("32 keep: over what was kept", h.keep(slot), 6);
            h.make(1, 1, 0L, 0);
            Checks.due("32 keep: the other one has none", h.again(1 - slot), LATE);
            Checks.due("32 keep: over what was kept", h.again(slot), 6);
            Checks.due("32 keep: over what was kept", Checks.told(h), RING + " A2 B10");
        }
    }

    private static void keepIsACopy() {
        HedgeWays h = Checks.maze(RING);
        h.keep(0);
        h.hedge(0, 1, false);
        h.gates(11, 11);
        h.keep(1);
        h.turn(1);
        Checks.due("32 keep: what is done then is not kept", h.again(0), 6);
        Checks.due("32 keep: what is done then is not kept", Checks.told(h), RING + " A0 B12");
        h.hedge(2, 2, true);
        h.gates(1, 1);
        Checks.due("33 again: what is done then is not kept", h.again(0), 6);
        Checks.due("33 again: what is done then is not kept", Checks.told(h), RING + " A0 B12");
        Checks.due("33 again: the other one", h.again(1), 6);
        Checks.due("33 again: the other one", Checks.told(h), "230/100 A11 B11");
    }

    // ---- 33

    private static void again() {
        for (int slot : NO_SLOTS) {
            Checks.still("33 again: UNKNOWN, " + slot, Mazes.holding(RING, 2, 10), h -> h.again(slot), UNKNOWN);
            Checks.still("33 again: UNKNOWN, " + slot + ", none kept", HedgeWays::wipe, h -> h.again(slot), UNKNOWN);
        }
        Checks.still("33 again: LATE, none kept", HedgeWays::wipe, h -> h.again(0), LATE);
        Checks.still("33 again: LATE, none kept", HedgeWays::wipe, h -> h.again(1), LATE);
        Checks.still("33 again: LATE, the other one is kept", Mazes.holding(RING, 2, 10), h -> h.again(1), LATE);
        Checks.still("33 again: LATE, the other one is kept", h -> {
            Checks.maze(h, RING);
            h.keep(1);
            h.make(4, 4, 3L, 1);
        }, h -> h.again(0), LATE);
        againLeavesTheText();
        againTwice();
        againOfAnotherSize();
    }

    private static void againLeavesTheText() {
        HedgeWays h = new HedgeWays();
        Mazes.holding(RING, 2, 10).on(h);
        Checks.due("33 again: how many CELLS", h.again(0), 9);
        Checks.due("33 again: THE TEXT stays; all of it", Checks.whole(h), OPEN_9
                + " A1 B20, about 12 1 4 0 5 0 2 9; 8 bytes, fault -9; slot 0 9 " + OPEN_9
                + " A1 B20; slot 1 -3 " + OPEN_9 + " A1 B20; the text 6 12/30/00 A0 B21");
    }

    private static void againTwice() {
        Checks.still("33 again: as it is already", h -> {
            Mazes.holding(RING, 2, 10).on(h);
            h.again(0);
        }, h -> h.again(0), 9);
        Checks.still("33 again: behind keep", h -> {
            Mazes.holding(RING, 2, 10).on(h);
            h.keep(1);
        }, h -> h.again(1), 6);
    }

    /** What is gone on from is as large as it was kept, for all that can be asked of it. */
    private static void againOfAnotherSize() {
        Checks.Calls large = h -> {
            Checks.maze(h, OPEN_36);
            h.keep(1);
            h.make(1, 1, 0L, 0);
            h.again(1);
        };
        Checks.still("33 again: the last CELL", large, h -> h.far(0, 55), 10);
        Checks.still("33 again: one PART", large, h -> h.about(4), 1);
        Checks.then("33 again: a HEDGE can be put in", large, h -> h.hedge(55, 0, false), 1,
                OPEN_36.replace("333332/111110", "333330/111110") + " A0 B55");
        Checks.Calls small = h -> {
            Checks.maze(h, "0");
            h.keep(0);
            Checks.maze(h, OPEN_36);
            h.again(0);
        };
        Checks.still("33 again: the rim is near", small, h -> h.hedge(0, 1, true), LATE);
        Checks.still("33 again: a CELL that is no more", small, h -> h.far(0, 55), UNKNOWN);
        Checks.still("33 again: one PART", small, h -> h.about(4), 1);
        Checks.still("33 again: one CELL is left", small, h -> h.about(10), 1);
    }
}
