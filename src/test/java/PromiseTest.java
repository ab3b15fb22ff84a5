/** Each promise of the document: ordinary inputs, the edges that it names, wrong inputs. */
public final class PromiseTest {
    private static final int UNKNOWN = -1, BAD = -2, LATE = -3, FULL = -4, NONE = -9;
    private static final int MIN = Integer.MIN_VALUE, MAX = Integer.MAX_VALUE;

    /** Four cells in a ring, a tail to the right of the second, a cell alone. */
    private static final String RING = "330/100";
    private static final String ALL_OPEN = "332/332/110";
    /** A snake through nine cells. */
    private static final String SNAKE = "112/310/110";

    private PromiseTest() {
    }

    public static void main(String[] args) {
        mazes();
        whatItIs();
        shortest();
        walks();
        numbers();
        brokenAndBarred();
        chases();
        turnedAndKept();
        Checks.end("PromiseTest");
    }

    private static void due(String what, long got, long want) {
        Checks.due(what, got, want);
    }

    private static void mazes() {
        newObject();
        write();
        wipe();
        fault();
        maze();
        make();
        open();
        hedge();
        gates();
        figure();
    }

    private static void newObject() {
        HedgeWays h = new HedgeWays();
        Checks.due("1 a new maze", Checks.told(h), "0 A0 B0");
        int[] about = {1, 1, 1, 0, 1, 0, 0, 0, 0, 1, 1, 0, 0, 0};
        for (int what = 0; what < about.length; what++) due("1 about(" + what + ")", h.about(what), about[what]);
        for (int side = 0; side < 4; side++) due("1 open", h.open(0, side), 0);
        due("1 again(0)", h.again(0), LATE);
        due("1 again(1)", h.again(1), LATE);
        due("1 UNKNOWN", HedgeWays.UNKNOWN, UNKNOWN);
        due("1 BAD", HedgeWays.BAD, BAD);
        due("1 LATE", HedgeWays.LATE, LATE);
        due("1 FULL", HedgeWays.FULL, FULL);
        due("1 NONE", HedgeWays.NONE, NONE);
    }

    private static void write() {
        HedgeWays h = new HedgeWays();
        due("2 write of 10", h.write(2, 0x7777_3130L), 2);
        due("2 the highest first", h.fault(), NONE);
        due("2 it comes behind", h.write(1, 0x2F), 3);
        due("2 a row too little", h.fault(), 3);
        due("2 eight bytes", h.write(8, -1L), 11);
        due("2 bytes over 127", h.fault(), 3);
        for (int n : new int[] {0, -1, 9, MIN, MAX}) due("2 write " + n, h.write(n, 48), BAD);
        due("2 nothing came", h.about(13), 11);
        for (int i = 0; i < 3; i++) h.write(8, 0);
        due("2 35 bytes", h.about(13), 35);
        due("2 too many by one", h.write(7, 0), FULL);
        due("2 nothing came", h.about(13), 35);
        due("2 just as many", h.write(6, 0), 41);
        due("2 full", h.write(1, 0), FULL);
        due("2 BAD ahead of FULL", h.write(9, 0), BAD);
        due("2 BAD ahead of FULL", h.write(0, 0), BAD);
        HedgeWays eight = new HedgeWays();
        due("2 8 bytes", eight.write(8, 0x3131_312F_3131_3030L), 8);
        due("2 the fourth of them", eight.fault(), 3);
    }

    private static void wipe() {
        HedgeWays h = Checks.maze("10");
        due("3 wipe", h.wipe(), 2);
        due("3 wipe of none", h.wipe(), 0);
        due("3 empty", h.about(13), 0);
        due("3 a fault", h.fault(), 0);
        Checks.due("3 the maze stays", Checks.told(h), "10 A0 B1");
        due("3 behind it from its beginning", Checks.text(h, "0").fault(), NONE);
    }

    private static void fault() {
        HedgeWays h = new HedgeWays();
        due("4 empty", h.fault(), 0);
        String[] whole = {"0", "10", "2/0", "00/00", "111110", "2/2/2/2/2/0", RING, ALL_OPEN, SNAKE,
            "333332/333332/333332/333332/333332/111110", "000000/000000/000000/000000/000000/000000"};
        for (String text : whole) due("4 " + text, Checks.text(h, text).fault(), NONE);
        String[] begun = {"1", "2", "3", "01", "20", "00/", "00/0", "00/2", "00/20", "00/10/", "333332/33",
            "2/2/2/2/2/", "333332/333332/333332/333332/333332/11111"};
        for (String text : begun) due("4 " + text, Checks.text(h, text).fault(), text.length());
        // the fault is told by its place ahead of what is written behind it
        String[] text = {"/", "4", "1/", "0000000", "111111", "000003", "00/000", "00/01", "00/03", "00/1/", "0//",
            "2/2/2/2/2/2", "2/2/2/2/2/3", "0/0/0/0/0/0/", "0/0/0/0/0/00", "0x", "00/0/", "3/", "000/0/00", " 0", "0."};
        int[] place = {0, 0, 1, 6, 5, 5, 5, 4, 4, 4, 2, 10, 10, 11, 11, 1, 4, 1, 5, 0, 1};
        for (int i = 0; i < text.length; i++) {
            due("4 " + text[i], Checks.text(h, text[i]).fault(), place[i]);
            due("4 more behind " + text[i], Checks.text(h, text[i] + "0/0").fault(), place[i]);
        }
    }

    private static void maze() {
        HedgeWays h = new HedgeWays();
        due("5 LATE: none", h.maze(), LATE);
        due("5 nine", Checks.text(h, ALL_OPEN).maze(), 9);
        Checks.due("5 as it was told", Checks.told(h), ALL_OPEN + " A0 B22");
        due("5 the text stays", h.about(13), 11);
        due("5 gates", h.gates(11, 12), 22);
        due("5 keep", h.keep(1), 9);
        due("5 a fault", Checks.text(h, "1").maze(), LATE);
        Checks.due("5 refused, nothing changes", Checks.told(h), ALL_OPEN + " A11 B12");
        due("5 another", Checks.text(h, RING).maze(), 6);
        Checks.due("5 new gates", Checks.told(h), RING + " A0 B12");
        due("5 what was kept stays", h.again(1), 9);
        Checks.due("5 kept", Checks.told(h), ALL_OPEN + " A11 B12");
        due("5 the text again", h.maze(), 6);
        Checks.maze(h, "333332/333332/333332/333332/333332/111110");
        due("5 all openings", h.about(3), 60);
        Checks.maze(h, "2/0");
        due("5 none of the old", h.about(3), 1);
    }

    private static void make() {
        HedgeWays h = new HedgeWays();
        due("6 way 0", h.make(3, 4, 42L, 0), 12);
        Checks.due("6 way 0", Checks.told(h), "2222/3030/1110 A0 B23");
        due("6 way 1", h.make(3, 4, 42L, 1), 12);
        Checks.due("6 way 1", Checks.told(h), "1112/3302/0110 A0 B23");
        due("6 below 0", h.make(2, 6, -1L, 0), 12);
        Checks.due("6 below 0", Checks.told(h), "212302/111110 A0 B15");
        due("6 below 0", h.make(6, 2, Long.MIN_VALUE, 1), 12);
        Checks.due("6 below 0", Checks.told(h), "22/12/22/30/12/10 A0 B51");
        Checks.text(h, "10");
        h.gates(31, 10);
        h.keep(0);
        due("6 one", h.make(1, 1, 5L, 0), 1);
        due("6 one", h.make(1, 1, 5L, 1), 1);
        Checks.due("6 one", Checks.told(h), "0 A0 B0");
        due("6 the text stays", h.about(13), 2);
        due("6 what was kept stays", h.again(0), 12);
        Checks.due("6 kept", Checks.told(h), "22/12/22/30/12/10 A31 B10");
        int[][] bad = {{0, 1, 0}, {7, 1, 0}, {1, 0, 0}, {1, 7, 1}, {1, 1, 2}, {1, 1, -1}, {-1, 3, 0}, {MAX, MAX, 0},
            {MIN, 3, 1}, {3, MIN, 1}, {3, 3, MIN}, {3, 3, MAX}};
        for (int[] b : bad) due("6 BAD", h.make(b[0], b[1], 0, b[2]), BAD);
        Checks.due("6 refused", Checks.told(h), "22/12/22/30/12/10 A31 B10");
        for (int way = 0; way < 2; way++) {
            for (long seed = -20; seed < 20; seed++) {
                h.make(6, 6, seed, way);
                due("6 no loops", h.about(5), 0);
                due("6 one part", h.about(4), 1);
            }
        }
    }

    private static void open() {
        HedgeWays h = Checks.maze(RING);
        int[] cells = {0, 1, 2, 10, 11, 12};
        int[][] sides = {{0, 1, 1, 0}, {0, 1, 1, 1}, {0, 0, 0, 1}, {1, 1, 0, 0}, {1, 0, 0, 1}, {0, 0, 0, 0}};
        for (int i = 0; i < cells.length; i++) {
            for (int s = 0; s < 4; s++) due("7 open(" + cells[i] + ", " + s + ")", h.open(cells[i], s), sides[i][s]);
        }
        for (int cell : noCells()) due("7 open(" + cell + ", 0)", h.open(cell, 0), UNKNOWN);
        for (int side : noSides()) due("7 open(0, " + side + ")", h.open(0, side), UNKNOWN);
    }

    /** Cells that a maze of two rows and three columns has not. */
    private static int[] noCells() {
        return new int[] {-1, 3, 5, 9, 13, 20, 22, 100, -10, -12, MIN, MAX};
    }

    private static int[] noSides() {
        return new int[] {-1, 4, 5, MIN, MAX};
    }

    private static void hedge() {
        HedgeWays h = Checks.maze(RING);
        due("8 taken away", h.hedge(12, 0, true), 0);
        due("8 from the other side", h.open(2, 2), 1);
        due("8 it is away", h.hedge(2, 2, true), 1);
        due("8 put in from the left", h.hedge(1, 3, false), 1);
        due("8 it is in", h.hedge(0, 1, false), 0);
        Checks.due("8 now", Checks.told(h), "232/100 A0 B12");
        due("8 right", h.hedge(11, 1, true), 0);
        due("8 up", h.hedge(10, 0, false), 1);
        due("8 left", h.hedge(11, 3, false), 1);
        due("8 down", h.hedge(0, 2, true), 0);
        Checks.due("8 now", Checks.told(h), "232/010 A0 B12");
        int[][] rim = {{0, 0}, {0, 3}, {1, 0}, {2, 0}, {2, 1}, {10, 3}, {10, 2}, {11, 2}, {12, 1}, {12, 2}};
        for (int[] r : rim) {
            due("8 the rim", h.hedge(r[0], r[1], true), LATE);
            due("8 the rim", h.hedge(r[0], r[1], false), LATE);
        }
        for (int cell : noCells()) due("8 hedge(" + cell + ")", h.hedge(cell, 1, true), UNKNOWN);
        for (int side : noSides()) due("8 hedge(0, " + side + ")", h.hedge(0, side, true), UNKNOWN);
        Checks.due("8 refused", Checks.told(h), "232/010 A0 B12");
    }

    private static void gates() {
        HedgeWays h = Checks.maze(RING);
        due("9 at first", h.gates(10, 2), 12);
        due("9 then", h.gates(11, 11), 1002);
        for (int cell : noCells()) {
            due("9 gates", h.gates(cell, 0), UNKNOWN);
            due("9 gates", h.gates(0, cell), UNKNOWN);
        }
        due("9 refused", h.gates(12, 0), 1111);
        due("9 A", h.about(11), 12);
        due("9 B", h.about(12), 0);
    }

    private static void figure() {
        HedgeWays h = Checks.maze(ALL_OPEN);
        int[] cells = {0, 1, 2, 10, 12, 20, 21, 22};
        int[] figures = {3, 3, 2, 3, 2, 1, 1, 0};
        for (int i = 0; i < cells.length; i++) due("10 figure(" + cells[i] + ")", h.figure(cells[i]), figures[i]);
        h.hedge(1, 3, false);
        due("10 put in", h.figure(0), 2);
        Checks.maze(h, RING);
        for (int cell : noCells()) due("10 figure(" + cell + ")", h.figure(cell), UNKNOWN);
    }

    private static void whatItIs() {
        about();
        part();
        bridge();
        must();
        left();
    }

    private static void aboutAll(HedgeWays h, int... due) {
        for (int what = 0; what < due.length; what++) due("11 about(" + what + ")", h.about(what), due[what]);
    }

    private static void about() {
        HedgeWays h = Checks.maze(RING);
        // the tail is shut, the ring and the one alone, which is B, are left
        aboutAll(h, 6, 2, 3, 5, 2, 1, 1, 1, 1, 0, 5, 0, 12, 7);
        h.gates(2, 10);
        aboutAll(h, 6, 2, 3, 5, 2, 1, 1, 1, 1, 3, 5, 2, 10, 7);
        aboutAll(Checks.maze(ALL_OPEN), 9, 3, 3, 12, 1, 4, 0, 5, 0, 2, 9, 0, 22, 11);
        aboutAll(Checks.maze(SNAKE), 9, 3, 3, 8, 1, 0, 2, 0, 8, 9, 9, 0, 22, 11);
        aboutAll(Checks.maze("00/00"), 4, 2, 2, 0, 4, 0, 0, 0, 0, 0, 2, 0, 11, 5);
        for (int what : new int[] {-1, 14, MIN, MAX}) due("11 about(" + what + ")", h.about(what), BAD);
    }

    private static void part() {
        HedgeWays h = Checks.maze("020/200/100");
        int[] cells = {0, 1, 2, 10, 11, 12, 20, 21, 22};
        int[] parts = {0, 1, 2, 10, 1, 12, 10, 10, 22};
        for (int i = 0; i < cells.length; i++) due("12 part(" + cells[i] + ")", h.part(cells[i]), parts[i]);
        Checks.maze(h, RING);
        for (int cell : noCells()) due("12 part(" + cell + ")", h.part(cell), UNKNOWN);
    }

    private static void bridge() {
        HedgeWays h = Checks.maze(RING);
        due("13 the tail", h.bridge(1, 1), 1);
        due("13 the tail from behind", h.bridge(2, 3), 1);
        due("13 the ring", h.bridge(0, 1), 0);
        due("13 the ring", h.bridge(11, 0), 0);
        due("13 shut", h.bridge(2, 2), LATE);
        due("13 the rim", h.bridge(0, 0), LATE);
        due("13 alone", h.bridge(12, 3), LATE);
        for (int cell : noCells()) due("13 bridge(" + cell + ")", h.bridge(cell, 1), UNKNOWN);
        for (int side : noSides()) due("13 bridge(0, " + side + ")", h.bridge(0, side), UNKNOWN);
        Checks.due("13 nothing changes", Checks.told(h), RING + " A0 B12");
        h.hedge(0, 2, false);
        due("13 the ring is broken", h.bridge(0, 1), 1);
    }

    private static void all(String what, HedgeWays h, String due) {
        StringBuilder got = new StringBuilder();
        for (int r = 0; r < h.about(1); r++) {
            for (int c = 0; c < h.about(2); c++) {
                got.append(what.equals("must") ? h.must(10 * r + c) : h.left(10 * r + c));
            }
        }
        Checks.due(what + " of " + Checks.told(h), got.toString(), due);
    }

    private static void must() {
        HedgeWays h = Checks.maze(RING);
        all("must", h, "000000");
        h.gates(2, 10);
        all("must", h, "011100");
        h.gates(10, 2);
        all("must", h, "011100");
        h.gates(11, 11);
        all("must", h, "000010");
        h.gates(12, 12);
        all("must", h, "000001");
        for (int cell : noCells()) due("14 must(" + cell + ")", h.must(cell), UNKNOWN);
    }

    private static void left() {
        HedgeWays h = Checks.maze(RING);
        h.gates(0, 11);
        all("left", h, "110110");
        h.gates(2, 2);
        all("left", h, "111110");
        Checks.maze(h, SNAKE).gates(2, 20);
        all("left", h, "001111100");
        h.gates(11, 11);
        all("left", h, "000010000");
        Checks.maze(h, RING);
        for (int cell : noCells()) due("15 left(" + cell + ")", h.left(cell), UNKNOWN);
    }

    private static void shortest() {
        far();
        ways();
        step();
        widest();
    }

    private static void far() {
        HedgeWays h = Checks.maze(RING);
        due("16 far", h.far(2, 10), 3);
        due("16 far", h.far(10, 2), 3);
        due("16 far", h.far(1, 1), 0);
        due("16 none", h.far(12, 2), NONE);
        due("16 alone", h.far(12, 12), 0);
        due("16 the snake", Checks.maze(SNAKE).far(0, 22), 8);
        due("16 the longest", Checks.maze("111112/311110/111112/311110/111112/111110").far(0, 50), 35);
        for (int cell : noCells()) {
            due("16 far(" + cell + ", 0)", h.far(cell, 0), UNKNOWN);
            due("16 far(0, " + cell + ")", h.far(0, cell), UNKNOWN);
        }
    }

    private static void ways() {
        HedgeWays h = Checks.maze(ALL_OPEN);
        due("17 across", h.ways(0, 22), 6);
        due("17 along", h.ways(0, 2), 1);
        due("17 aslant", h.ways(12, 1), 2);
        due("17 where one is", h.ways(11, 11), 1);
        Checks.maze(h, "333332/333332/333332/333332/333332/111110");
        due("17 the most", h.ways(55, 0), 252);
        Checks.maze(h, RING);
        due("17 none", h.ways(0, 12), 0);
        due("17 two", h.ways(10, 2), 2);
        for (int cell : noCells()) {
            due("17 ways(" + cell + ", 0)", h.ways(cell, 0), UNKNOWN);
            due("17 ways(0, " + cell + ")", h.ways(0, cell), UNKNOWN);
        }
    }

    private static void steps(HedgeWays h, int from, int to, int... cells) {
        for (int k = 0; k < cells.length; k++) due("18 step " + k, h.step(from, to, k), cells[k]);
        due("18 not so many", h.step(from, to, cells.length), NONE);
        due("18 below 0", h.step(from, to, -1), NONE);
        due("18 far below 0", h.step(from, to, MIN), NONE);
        due("18 far behind", h.step(from, to, MAX), NONE);
    }

    private static void step() {
        HedgeWays h = Checks.maze(ALL_OPEN);
        steps(h, 0, 22, 0, 1, 2, 12, 22);
        steps(h, 22, 0, 22, 12, 2, 1, 0);
        steps(h, 20, 2, 20, 10, 0, 1, 2);
        steps(h, 2, 20, 2, 12, 22, 21, 20);
        steps(h, 11, 11, 11);
        h.hedge(0, 1, false);
        steps(h, 0, 2, 0, 10, 11, 1, 2);
        Checks.maze(h, RING);
        steps(h, 0, 12);
        for (int cell : noCells()) {
            due("18 step(" + cell + ", 0)", h.step(cell, 0, 0), UNKNOWN);
            due("18 step(0, " + cell + ")", h.step(0, cell, -1), UNKNOWN);
        }
    }

    private static void widest() {
        HedgeWays h = Checks.maze(RING);
        due("19 widest", h.widest(0), 3);
        due("19 widest", h.widest(2), 3);
        due("19 alone", h.widest(12), 0);
        due("19 the snake", Checks.maze(SNAKE).widest(11), 8);
        due("19 all open", Checks.maze(ALL_OPEN).widest(11), 4);
        for (int cell : noCells()) due("19 widest(" + cell + ")", h.widest(cell), UNKNOWN);
    }

    private static void walks() {
        hand();
        handAt();
        threadAndSeen();
    }

    private static void hand() {
        HedgeWays h = Checks.maze(RING);
        // looking down, the right hand is to the left, where the rim is: down, right, up, then right into the tail
        h.gates(0, 2);
        due("20 down, right hand", h.hand(2, true), 4);
        due("20 down, left hand", h.hand(2, false), 2);
        due("20 right, right hand", h.hand(1, true), 4);
        due("20 right, left hand", h.hand(1, false), 2);
        due("20 left, right hand", h.hand(3, true), 4);
        due("20 up, left hand", h.hand(0, false), 2);
        // turned at once to the inside of the ring, it goes round there
        due("20 up, right hand", h.hand(0, true), NONE);
        due("20 left, left hand", h.hand(3, false), NONE);
        h.gates(0, 12);
        for (int side = 0; side < 4; side++) due("20 never", h.hand(side, side % 2 == 0), NONE);
        h.gates(12, 0);
        due("20 it can not go", h.hand(0, true), NONE);
        h.gates(12, 12);
        due("20 A is B", h.hand(3, false), 0);
        // a hand kept on the rim goes round what stands alone inside
        Checks.maze(h, ALL_OPEN).gates(0, 11);
        due("20 round and round", h.hand(1, false), NONE);
        due("20 turned at once", h.hand(1, true), NONE);
        for (int side : noSides()) due("20 hand(" + side + ")", h.hand(side, true), UNKNOWN);
    }

    private static void handWay(HedgeWays h, int side, boolean right, int... cells) {
        for (int k = 0; k < cells.length; k++) due("21 behind " + k, h.handAt(side, right, k), cells[k]);
    }

    private static void handAt() {
        HedgeWays h = Checks.maze(RING);
        h.gates(2, 1);
        handWay(h, 0, true, 2, 1, 0, 10, 11, 1, 2, 1, 0);
        handWay(h, 0, false, 2, 1, 11, 10, 0, 1, 2, 1, 11);
        due("21 six a round", h.handAt(0, true, 999), 10);
        h.gates(12, 1);
        due("21 it can not go", h.handAt(2, true, 999), 12);
        due("21 it can not go", h.handAt(2, true, 0), 12);
        for (int k : new int[] {-1, 1000, MIN, MAX}) {
            due("21 k " + k, h.handAt(0, true, k), BAD);
            due("21 UNKNOWN ahead of BAD", h.handAt(4, true, k), UNKNOWN);
        }
        for (int side : noSides()) due("21 handAt(" + side + ")", h.handAt(side, false, 0), UNKNOWN);
    }

    private static void threadOf(HedgeWays h, int a, int b, int thread, int seen) {
        h.gates(a, b);
        due("22 thread " + a + " " + b, h.thread(), thread);
        due("23 seen " + a + " " + b, h.seen(), seen);
    }

    private static void threadAndSeen() {
        HedgeWays h = Checks.maze(RING);
        threadOf(h, 0, 2, 2, 3);
        // to 1, 2 and back, 11, 10
        threadOf(h, 0, 10, 5, 5);
        threadOf(h, 2, 11, 2, 3);
        threadOf(h, 10, 2, 3, 4);
        threadOf(h, 0, 12, NONE, 5);
        threadOf(h, 12, 0, NONE, 1);
        threadOf(h, 12, 12, 0, 1);
        threadOf(h, 0, 0, 0, 1);
        // up first, back, then right, back, then down
        Checks.maze(h, "020/130/000");
        threadOf(h, 11, 1, 1, 2);
        threadOf(h, 11, 12, 3, 3);
        threadOf(h, 11, 21, 5, 4);
        threadOf(h, 11, 10, 7, 5);
        threadOf(h, 11, 22, NONE, 5);
    }

    private static void numbers() {
        lost();
        trees();
    }

    private static void lostIs(HedgeWays h, int from, int to, long above, long below) {
        due("24 lost(" + from + ", " + to + ") above", h.lost(from, to, true), above);
        due("24 lost(" + from + ", " + to + ") below", h.lost(from, to, false), below);
    }

    private static void lost() {
        HedgeWays h = Checks.maze("111110");
        // along a line of n steps from its end: n times n
        lostIs(h, 0, 5, 25, 1);
        lostIs(h, 5, 3, 4, 1);
        lostIs(h, 3, 5, 16, 1);
        Checks.maze(h, RING);
        // in a ring of four: 3 to a cell beside, 4 to the one across
        lostIs(h, 2, 1, 1, 1);
        lostIs(h, 0, 1, 3, 1);
        lostIs(h, 10, 1, 4, 1);
        lostIs(h, 1, 2, 9, 1);
        lostIs(h, 1, 0, 9, 2);
        lostIs(h, 12, 12, 0, 1);
        lostIs(h, 10, 10, 0, 1);
        lostIs(h, 12, 11, LATE, LATE);
        Checks.maze(h, "11110/11110");
        lostIs(h, 0, 4, 16, 1);
        h.hedge(0, 2, true);
        lostIs(h, 4, 14, 81, 1);
        Checks.maze(h, "111110/000000");
        h.hedge(5, 2, true);
        h.hedge(15, 3, true);
        h.hedge(14, 3, true);
        h.hedge(13, 3, true);
        lostIs(h, 0, 12, 81, 1);
        h.hedge(12, 3, true);
        lostIs(h, 0, 11, LATE, LATE);
        lostIs(h, 0, 0, LATE, LATE);
        lostIs(h, 10, 0, LATE, LATE);
        lostIs(h, 10, 10, 0, 1);
        Checks.maze(h, RING);
        for (int cell : noCells()) {
            lostIs(h, cell, 0, UNKNOWN, UNKNOWN);
            lostIs(h, 12, cell, UNKNOWN, UNKNOWN);
        }
    }

    private static void trees() {
        HedgeWays h = Checks.maze(RING);
        due("25 a ring of four", h.trees(11), 4);
        due("25 from the tail", h.trees(2), 4);
        due("25 alone", h.trees(12), 1);
        due("25 the snake", Checks.maze(SNAKE).trees(11), 1);
        due("25 nine", Checks.maze(ALL_OPEN).trees(0), 192);
        due("25 two by two", Checks.maze("32/32/10").trees(0), 15);
        due("25 sixteen", Checks.maze("3332/3332/3332/1110").trees(33), 100352);
        HedgeWays twenty = Checks.maze("33332/33332/33332/11110");
        due("25 twenty", twenty.trees(0), LATE);
        for (int r = 0; r < 40; r += 10) twenty.hedge(3 + r, 1, false);
        due("25 sixteen of them", twenty.trees(0), 100352);
        due("25 four of them", twenty.trees(14), 1);
        twenty.hedge(3, 1, true);
        due("25 more again", twenty.trees(14), LATE);
        for (int cell : noCells()) due("25 trees(" + cell + ")", h.trees(cell), UNKNOWN);
    }

    private static void brokenAndBarred() {
        breaks();
        shortCut();
        bar();
    }

    private static void breaks() {
        HedgeWays h = Checks.maze(RING);
        due("26 none", h.breaks(10, 2), 0);
        due("26 one", h.breaks(12, 10), 1);
        due("26 where one is", h.breaks(12, 12), 0);
        Checks.maze(h, "0000/0000/0000");
        due("26 all", h.breaks(0, 23), 5);
        due("26 back", h.breaks(20, 3), 5);
        h.hedge(11, 1, true);
        due("26 one less", h.breaks(0, 23), 4);
        // a long way round through no hedge is better than one hedge
        due("26 round", Checks.maze(SNAKE).breaks(0, 20), 0);
        Checks.maze(h, RING);
        for (int cell : noCells()) {
            due("26 breaks(" + cell + ", 0)", h.breaks(cell, 0), UNKNOWN);
            due("26 breaks(0, " + cell + ")", h.breaks(0, cell), UNKNOWN);
        }
    }

    private static void shortCut() {
        HedgeWays h = Checks.maze(SNAKE);
        // from 0 down at once, then from 10 down: both leave 4; of these the least is told
        due("27 the snake", h.shortCut(), 2);
        Checks.due("27 nothing changes", Checks.told(h), SNAKE + " A0 B22");
        h.gates(1, 22);
        due("27 from 1", h.shortCut(), 122);
        h.gates(12, 22);
        due("27 straight", h.shortCut(), 122);
        h.gates(11, 11);
        due("27 A is B", h.shortCut(), NONE);
        due("27 none", Checks.maze(ALL_OPEN).shortCut(), NONE);
        Checks.maze(h, "00/00");
        due("27 one is not enough", h.shortCut(), NONE);
        h.gates(11, 1);
        due("27 any way is less", h.shortCut(), 12);
        Checks.maze(h, RING);
        due("27 to the one alone", h.shortCut(), 22);
        h.gates(10, 12);
        due("27 the shorter one", h.shortCut(), 111);
    }

    private static void bar() {
        HedgeWays h = Checks.maze(RING);
        h.gates(0, 1);
        due("28 round the ring", h.bar(), 1);
        h.gates(0, 11);
        due("28 two like ones", h.bar(), NONE);
        h.gates(1, 2);
        due("28 a bridge is none", h.bar(), NONE);
        h.gates(0, 12);
        due("28 no way", h.bar(), NONE);
        h.gates(0, 0);
        due("28 A is B", h.bar(), NONE);
        h.gates(11, 2);
        due("28 down", h.bar(), 12);
        Checks.due("28 nothing changes", Checks.told(h), RING + " A11 B2");
        due("28 the snake", Checks.maze(SNAKE).bar(), NONE);
        Checks.maze(h, ALL_OPEN).gates(0, 2);
        due("28 of like ones the least", h.bar(), 1);
        // shut at 0 there is a little way round, shut at 1 a great one
        Checks.maze(h, "332/122/010").gates(0, 2);
        due("28 the greatest", h.bar(), 11);
        h.hedge(11, 2, false);
        due("28 none behind 1", h.bar(), 1);
    }

    private static void chaseIs(HedgeWays h, int runner, int hunter, int home, int caught) {
        due("29 home " + runner + " " + hunter, h.chase(runner, hunter, true), home);
        due("29 caught " + runner + " " + hunter, h.chase(runner, hunter, false), caught);
    }

    private static void chases() {
        HedgeWays h = Checks.maze("111110");
        // B is 5: the runner must be there ahead of the hunter's turn
        chaseIs(h, 5, 5, 0, NONE);
        chaseIs(h, 5, 0, 0, NONE);
        chaseIs(h, 3, 3, NONE, 0);
        chaseIs(h, 4, 5, NONE, 5);
        chaseIs(h, 0, 5, NONE, 5);
        chaseIs(h, 4, 3, 1, NONE);
        chaseIs(h, 2, 0, 3, NONE);
        chaseIs(h, 0, 1, NONE, 1);
        h.gates(0, 2);
        chaseIs(h, 5, 3, NONE, 2);
        chaseIs(h, 5, 0, NONE, 5);
        chaseIs(h, 3, 0, 1, NONE);
        h.gates(2, 2);
        chaseIs(h, 1, 2, NONE, 2);
        // in a ring of four nobody is caught, and B in it is stood on
        Checks.maze(h, RING);
        h.gates(2, 2);
        chaseIs(h, 10, 2, NONE, NONE);
        chaseIs(h, 0, 11, NONE, NONE);
        chaseIs(h, 1, 0, 1, NONE);
        chaseIs(h, 11, 10, 2, NONE);
        chaseIs(h, 0, 12, 2, NONE);
        chaseIs(h, 12, 0, NONE, NONE);
        chaseIs(h, 12, 12, NONE, 0);
        for (int cell : noCells()) {
            chaseIs(h, cell, 0, UNKNOWN, UNKNOWN);
            chaseIs(h, 2, cell, UNKNOWN, UNKNOWN);
        }
    }

    private static void turnedAndKept() {
        same();
        turn();
        keepAndAgain();
    }

    private static void sames(String text, String due) {
        HedgeWays h = Checks.maze(text);
        StringBuilder got = new StringBuilder();
        for (int t = 0; t < 8; t++) got.append(h.same(t));
        Checks.due("30 same of " + text, got.toString(), due);
        Checks.due("30 nothing changes", Checks.told(h), text + " A0 B" + h.about(12));
    }

    private static void same() {
        sames(ALL_OPEN, "11111111");
        sames(RING, "10000000");
        sames("10", "10101010");
        sames("10/00", "10001000");
        sames("20/00", "10000010");
        // mirrored and three quarters on, rows and columns are changed with one another
        sames("30/00", "10000001");
        sames("10/10", "10101010");
        sames("100/000/010", "10100000");
        HedgeWays h = Checks.maze(ALL_OPEN);
        h.gates(1, 20);
        due("30 gates are set aside", h.same(5), 1);
        for (int t : new int[] {-1, 8, MIN, MAX}) due("30 same(" + t + ")", h.same(t), BAD);
    }

    private static void turns(int t, String due, int answer) {
        HedgeWays h = Checks.maze("310/000");
        h.gates(1, 12);
        due("31 turn(" + t + ")", h.turn(t), answer);
        Checks.due("31 turned by " + t, Checks.told(h), due);
    }

    private static void turn() {
        turns(0, "310/000 A1 B12", 0);
        turns(1, "12/02/00 A11 B20", 1);
        turns(2, "002/110 A11 B0", 1);
        turns(3, "20/20/10 A10 B1", 1);
        turns(4, "112/000 A1 B10", 1);
        turns(5, "02/02/10 A11 B0", 1);
        turns(6, "200/110 A11 B2", 1);
        turns(7, "30/20/00 A10 B21", 1);
        HedgeWays h = Checks.maze(ALL_OPEN);
        h.gates(1, 20);
        due("31 as it was", h.turn(1), 0);
        Checks.due("31 the gates are turned", Checks.told(h), ALL_OPEN + " A12 B0");
        for (int t : new int[] {-1, 8, MIN, MAX}) due("31 turn(" + t + ")", h.turn(t), BAD);
        Checks.due("31 refused", Checks.told(h), ALL_OPEN + " A12 B0");
        due("31 the text stays", h.about(13), 11);
    }

    private static void keepAndAgain() {
        HedgeWays h = Checks.maze(RING);
        h.gates(2, 10);
        due("33 none kept", h.again(1), LATE);
        due("32 keep(1)", h.keep(1), 6);
        due("33 the other one", h.again(0), LATE);
        h.hedge(0, 1, false);
        h.gates(0, 0);
        due("32 keep(0)", h.keep(0), 6);
        h.make(4, 5, 1, 0);
        due("33 again(1)", h.again(1), 6);
        Checks.due("33 as it was kept", Checks.told(h), RING + " A2 B10");
        h.hedge(0, 2, false);
        due("33 again(0)", h.again(0), 6);
        Checks.due("33 as it was kept", Checks.told(h), "230/100 A0 B0");
        due("33 again(1) once more", h.again(1), 6);
        Checks.due("33 what one does then is not kept", Checks.told(h), RING + " A2 B10");
        h.make(2, 2, 1, 0);
        due("32 kept over", h.keep(1), 4);
        h.wipe();
        due("33 over", h.again(1), 4);
        due("33 the text is not kept", h.about(13), 0);
        for (int slot : new int[] {-1, 2, MIN, MAX}) {
            due("32 keep(" + slot + ")", h.keep(slot), UNKNOWN);
            due("33 again(" + slot + ")", h.again(slot), UNKNOWN);
        }
        due("33 refused", h.about(0), 4);
    }
}
