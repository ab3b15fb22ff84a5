/** Promises 1 to 10: a test of its own for each sentence that names an edge or a refusal. */
public final class EdgesMazesTest {
    private static final int UNKNOWN = Mazes.UNKNOWN, BAD = Mazes.BAD, LATE = Mazes.LATE, FULL = Mazes.FULL;
    private static final int NONE = Mazes.NONE, MIN = Mazes.MIN, MAX = Mazes.MAX;
    private static final String RING = Mazes.RING, SHUT_36 = Mazes.SHUT_36, OPEN_36 = Mazes.OPEN_36;

    private EdgesMazesTest() {
    }

    public static void main(String[] args) {
        newObject();
        write();
        wipe();
        fault();
        maze();
        make();
        open();
        hedge();
        gates();
        figure();
        Checks.end("EdgesMazesTest");
    }

    private static void due(String what, long got, long want) {
        Checks.due(what, got, want);
    }

    private static void fresh(HedgeWays h) {
        // the constructor alone
    }

    // ---- 1

    private static void newObject() {
        newIsOneCell();
        newHoldsNothing();
        newWays();
        newChanges();
        newCellsAreUnknown();
    }

    private static void newIsOneCell() {
        Checks.due("1 one CELL, THE MAZE is 0, GATES are CELL 0 and the last", Checks.told(new HedgeWays()), "0 A0 B0");
        int[] about = {1, 1, 1, 0, 1, 0, 0, 0, 0, 1, 1, 0, 0, 0};
        for (int what = 0; what < about.length; what++) {
            due("1 about(" + what + ") of one CELL", new HedgeWays().about(what), about[what]);
        }
        for (int side = 0; side < 4; side++) {
            int s = side;
            Checks.still("1 open(0, " + s + ")", EdgesMazesTest::fresh, h -> h.open(0, s), 0);
            Checks.still("1 hedge(0, " + s + ")", EdgesMazesTest::fresh, h -> h.hedge(0, s, true), LATE);
            Checks.still("1 bridge(0, " + s + ")", EdgesMazesTest::fresh, h -> h.bridge(0, s), LATE);
        }
        Checks.still("1 part(0)", EdgesMazesTest::fresh, h -> h.part(0), 0);
        Checks.still("1 must(0)", EdgesMazesTest::fresh, h -> h.must(0), 1);
        Checks.still("1 left(0)", EdgesMazesTest::fresh, h -> h.left(0), 1);
    }

    private static void newHoldsNothing() {
        Checks.still("1 THE TEXT is empty", EdgesMazesTest::fresh, h -> h.about(13), 0);
        Checks.still("1 wipe", EdgesMazesTest::fresh, HedgeWays::wipe, 0);
        Checks.still("1 fault", EdgesMazesTest::fresh, HedgeWays::fault, 0);
        Checks.still("1 maze", EdgesMazesTest::fresh, HedgeWays::maze, LATE);
        Checks.still("1 again(0)", EdgesMazesTest::fresh, h -> h.again(0), LATE);
        Checks.still("1 again(1)", EdgesMazesTest::fresh, h -> h.again(1), LATE);
    }

    private static void newWays() {
        Checks.still("1 far(0, 0)", EdgesMazesTest::fresh, h -> h.far(0, 0), 0);
        Checks.still("1 ways(0, 0)", EdgesMazesTest::fresh, h -> h.ways(0, 0), 1);
        Checks.still("1 step(0, 0, 0)", EdgesMazesTest::fresh, h -> h.step(0, 0, 0), 0);
        Checks.still("1 step(0, 0, 1)", EdgesMazesTest::fresh, h -> h.step(0, 0, 1), NONE);
        Checks.still("1 widest(0)", EdgesMazesTest::fresh, h -> h.widest(0), 0);
        Checks.still("1 hand(0, true)", EdgesMazesTest::fresh, h -> h.hand(0, true), 0);
        Checks.still("1 handAt(0, true, 999)", EdgesMazesTest::fresh, h -> h.handAt(0, true, 999), 0);
        Checks.still("1 thread", EdgesMazesTest::fresh, HedgeWays::thread, 0);
        Checks.still("1 seen", EdgesMazesTest::fresh, HedgeWays::seen, 1);
        Checks.still("1 lost(0, 0, true)", EdgesMazesTest::fresh, h -> h.lost(0, 0, true), 0);
        Checks.still("1 lost(0, 0, false)", EdgesMazesTest::fresh, h -> h.lost(0, 0, false), 1);
        Checks.still("1 trees(0)", EdgesMazesTest::fresh, h -> h.trees(0), 1);
    }

    private static void newChanges() {
        Checks.still("1 breaks(0, 0)", EdgesMazesTest::fresh, h -> h.breaks(0, 0), 0);
        Checks.still("1 shortCut", EdgesMazesTest::fresh, HedgeWays::shortCut, NONE);
        Checks.still("1 bar", EdgesMazesTest::fresh, HedgeWays::bar, NONE);
        Checks.still("1 chase(0, 0, true)", EdgesMazesTest::fresh, h -> h.chase(0, 0, true), 0);
        Checks.still("1 chase(0, 0, false)", EdgesMazesTest::fresh, h -> h.chase(0, 0, false), NONE);
        for (int turned = 0; turned < 8; turned++) {
            int t = turned;
            Checks.still("1 same(" + t + ")", EdgesMazesTest::fresh, h -> h.same(t), 1);
            Checks.still("1 turn(" + t + ")", EdgesMazesTest::fresh, h -> h.turn(t), 0);
        }
    }

    private static void newCellsAreUnknown() {
        for (int cell : new int[] {1, 10, 11, -1, -10, MIN, MAX}) {
            Checks.still("1 figure(" + cell + ")", EdgesMazesTest::fresh, h -> h.figure(cell), UNKNOWN);
        }
    }

    // ---- 2

    /** So many bytes, a maze of 41 of them: rows of six. */
    private static Checks.Calls begun(int bytes) {
        return h -> {
            Mazes.holding(RING, 2, 10).on(h);
            Checks.text(h, OPEN_36.substring(0, bytes));
        };
    }

    private static long bytes(String text) {
        long v = 0;
        for (int i = 0; i < text.length(); i++) v = v << 8 | text.charAt(i);
        return v;
    }

    private static void write() {
        Mazes.badOutside("2 write: n from 1 to 8, BAD", 1, 8, (h, n) -> h.write(n, 0x3030303030303030L));
        writeOfEachLength();
        writeOfBytesThatAreNoSigns();
        writeFull();
        writeBadAheadOfFull();
        writeJustFull();
    }

    private static void writeOfEachLength() {
        String[] texts = {"0", "10", "2/0", "1110", "32/10", "111110", "220/000", "2/2/2/0"};
        for (String text : texts) {
            int n = text.length();
            // what is above the lowest n bytes must not come, be it ones or zeros
            for (long above : new long[] {0L, -1L, 0x3132333231303132L}) {
                long v = n == 8 ? bytes(text) : bytes(text) | above << (8 * n);
                HedgeWays h = new HedgeWays();
                due("2 write: how long it is", h.write(n, v), n);
                due("2 write: the lowest " + n + " bytes", h.maze(), text.replace("/", "").length());
                String told = Checks.told(h);
                Checks.due("2 write: the highest first", told.substring(0, told.indexOf(' ')), text);
                due("2 write: it comes behind", h.write(1, '/'), n + 1);
                due("2 write: it comes behind", h.fault(), n + 1);
            }
        }
    }

    private static void writeOfBytesThatAreNoSigns() {
        // 0xB0 is 0x30 with the highest bit, 0x00 ends a text elsewhere
        int[] signs = {0xB0, 0xB1, 0xAF, 0xFF, 0x80, 0x00, 0x7F, 0x70, 0x10};
        for (int sign : signs) {
            HedgeWays h = new HedgeWays();
            due("2 write: a byte " + sign, h.write(1, sign), 1);
            due("2 write: is kept as it is", h.fault(), 0);
            due("2 write: behind it", h.write(8, (long) sign << 56), 9);
            due("2 write: is counted", h.wipe(), 9);
            due("2 write: below 0", h.write(2, 0xFFFF_FFFF_FFFF_3000L | sign), 2);
            due("2 write: the second byte", h.fault(), 1);
        }
        HedgeWays least = new HedgeWays();
        due("2 write: the least long", least.write(8, Long.MIN_VALUE), 8);
        due("2 write: begins with 128", least.fault(), 0);
        HedgeWays greatest = new HedgeWays();
        due("2 write: the greatest long", greatest.write(1, Long.MAX_VALUE), 1);
        due("2 write: ends with 255", greatest.fault(), 0);
    }

    private static void writeFull() {
        for (int n = 1; n <= 8; n++) {
            int count = n;
            long zeros = 0x3030303030303030L;
            for (int left = 0; left < n; left++) {
                Checks.still("2 write: FULL, " + n + " bytes behind " + (41 - left), begun(41 - left),
                        h -> h.write(count, zeros), FULL);
            }
            HedgeWays h = new HedgeWays();
            begun(41 - n).on(h);
            due("2 write: " + n + " bytes behind " + (41 - n), h.write(n, zeros), 41);
            due("2 write: all came", h.about(13), 41);
        }
    }

    private static void writeBadAheadOfFull() {
        for (int n : new int[] {0, -1, 9, 41, 42, MIN, MAX}) {
            Checks.still("2 write: BAD ahead of FULL, n " + n, begun(41), h -> h.write(n, 48), BAD);
            Checks.still("2 write: BAD ahead of FULL, n " + n, begun(40), h -> h.write(n, 48), BAD);
        }
    }

    private static void writeJustFull() {
        HedgeWays h = new HedgeWays();
        for (int i = 0; i < 5; i++) due("2 write: eight", h.write(8, bytes(OPEN_36.substring(8 * i, 8 * i + 8))), 8 * i + 8);
        due("2 write: FULL by one", h.write(2, bytes("00")), FULL);
        due("2 write: not the one that would go", h.about(13), 40);
        due("2 write: the one alone", h.write(1, '0'), 41);
        due("2 write: 41 bytes are a maze", h.maze(), 36);
        Checks.due("2 write: the one that came", Checks.told(h), OPEN_36 + " A0 B55");
        due("2 write: FULL", h.write(1, '0'), FULL);
        due("3 wipe: how long it was", h.wipe(), 41);
        due("2 write: not FULL any more", h.write(8, 0), 8);
    }

    // ---- 3

    private static void wipe() {
        Checks.still("3 wipe: empty already", begun(0), HedgeWays::wipe, 0);
        for (int length : new int[] {1, 8, 40, 41}) {
            HedgeWays h = new HedgeWays();
            begun(length).on(h);
            due("3 wipe: how long it was", h.wipe(), length);
            due("3 wipe: empty", h.about(13), 0);
            due("3 wipe: again", h.wipe(), 0);
            due("3 wipe: FAULT of the empty one", h.fault(), 0);
            due("3 wipe: what came is gone", h.write(2, bytes("10")), 2);
            due("3 wipe: what came is gone", h.fault(), NONE);
        }
        Checks.then("3 wipe: THE MAZE and GATES stay", Mazes.holding(RING, 2, 10), HedgeWays::wipe, 8, RING + " A2 B10");
        HedgeWays h = new HedgeWays();
        Mazes.holding(RING, 2, 10).on(h);
        h.wipe();
        due("3 wipe: what was kept stays", h.again(0), 9);
        Checks.due("3 wipe: what was kept stays", Checks.told(h), Mazes.OPEN_9 + " A1 B20");
        due("3 wipe: none kept stays none", h.again(1), LATE);
    }

    // ---- 4

    private static Checks.Calls withText(String text) {
        return h -> {
            Mazes.holding(RING, 2, 10).on(h);
            Checks.text(h, text);
        };
    }

    /** A text with a FAULT at a place: told so, THE MAZE is refused for it, and nothing is changed by either. */
    private static void faulty(String why, String text, int place) {
        Checks.still("4 fault: " + why + ": " + text, withText(text), HedgeWays::fault, place);
        Checks.still("5 maze: LATE, " + why + ": " + text, withText(text), HedgeWays::maze, LATE);
    }

    /** Whatever comes behind the byte of a FAULT, it is the first one. */
    private static void faultyForEver(String why, String text) {
        int place = text.length() - 1;
        for (String more : new String[] {"", "0", "/", "/0", "00/000", "x", "1", "2"}) faulty(why, text + more, place);
    }

    /** So far there is no wrong byte, but a maze does not end so. */
    private static void unfinished(String why, String text) {
        faulty(why, text, text.length());
    }

    private static void fault() {
        unfinished("THE TEXT is empty", "");
        faultUnfinished();
        faultSlash();
        faultFigures();
        faultRows();
        faultBytes();
        faultNone();
    }

    private static void faultUnfinished() {
        unfinished("open to the right at the end", "1");
        unfinished("open to the right at the end", "00003");
        unfinished("open to the right at the end", "110/1");
        unfinished("open down in the last ROW", "2");
        unfinished("open down in the last ROW", "200000");
        unfinished("open down in the last ROW, then not", "20");
        unfinished("open down in the last ROW", "0/2");
        unfinished("open down in the last ROW", "0/0/0/0/2");
        unfinished("open down in the first ROW is no matter, in the last it is", "2/2");
        unfinished("a / at the end", "0/");
        unfinished("a / at the end", "000000/");
        unfinished("a / at the end", "0/0/0/0/0/");
        unfinished("a ROW begun", "00/0");
        unfinished("a ROW begun", "000000/00000");
        unfinished("the last byte is missing", SHUT_36.substring(0, 40));
        unfinished("the last byte is missing", OPEN_36.substring(0, 40));
    }

    private static void faultSlash() {
        faultyForEver("a / at the beginning", "/");
        faultyForEver("a / behind a /", "0//");
        faultyForEver("a / behind a /", "00/00//");
        faultyForEver("a / behind a figure open to the right", "1/");
        faultyForEver("a / behind a figure open to the right", "3/");
        faultyForEver("a / behind a figure open to the right", "01/");
        faultyForEver("a / behind a figure open to the right", "00003/");
        faultyForEver("a / behind a figure open to the right, the ROW too short", "000/01/");
        faultyForEver("a / behind the last ROW", "0/0/0/0/0/0/");
        faultyForEver("a / behind the last ROW", "00/00/00/00/00/00/");
    }

    private static void faultFigures() {
        faultyForEver("a seventh figure", "0000000");
        faultyForEver("a seventh figure", "1111102");
        faultyForEver("a figure open to the right where the ROW ends, the sixth", "000001");
        faultyForEver("a figure open to the right where the ROW ends, the sixth", "222223");
        faultyForEver("a figure open to the right where the ROW ends", "0/1");
        faultyForEver("a figure open to the right where the ROW ends", "00/13");
        faultyForEver("a figure open to the right where the ROW ends", "00000/11111");
        faultyForEver("a figure open to the right where the ROW ends", "000000/000001");
        faultyForEver("a figure open down in ROW 5", "0/0/0/0/0/2");
        faultyForEver("a figure open down in ROW 5", "00/00/00/00/00/3");
        faultyForEver("a figure open down in ROW 5", "00/00/00/00/00/12");
        faultyForEver("a figure open down in ROW 5", "2/2/2/2/2/2");
        faulty("the last byte of 41", SHUT_36.substring(0, 40) + "1", 40);
        faulty("the last byte of 41", SHUT_36.substring(0, 40) + "2", 40);
        faulty("the last byte of 41", SHUT_36.substring(0, 40) + "/", 40);
    }

    private static void faultRows() {
        faultyForEver("a ROW shorter than the first one", "00/0/");
        faultyForEver("a ROW shorter than the first one", "000000/00000/");
        faultyForEver("a ROW shorter than the first one", "000/000/00/");
        faultyForEver("a ROW longer than the first one", "0/00");
        faultyForEver("a ROW longer than the first one", "00000/000000");
        faultyForEver("a ROW longer than the first one", "00/00/000");
        faultyForEver("ROW 5 longer than the first one", "0/0/0/0/0/00");
    }

    /** Each of the 256 bytes behind a text: those that can come there, and no other one. */
    private static void bytesBehind(String text, String can) {
        for (int sign = 0; sign < 256; sign++) {
            HedgeWays h = new HedgeWays();
            Checks.text(h, text).write(1, sign);
            boolean wrong = h.fault() == text.length();
            due("4 fault: a byte " + sign + " behind " + text, wrong ? 1 : 0, can.indexOf(sign) >= 0 ? 0 : 1);
        }
    }

    private static void faultBytes() {
        bytesBehind("", "0123");
        bytesBehind("0", "0123/");
        bytesBehind("2", "0123/");
        bytesBehind("1", "0123");
        bytesBehind("3", "0123");
        bytesBehind("0000", "0123/");
        bytesBehind("00000", "02/");
        bytesBehind("00001", "02");
        bytesBehind("000000", "/");
        bytesBehind("000002", "/");
        bytesBehind("0/", "02");
        bytesBehind("0/0", "/");
        bytesBehind("00/", "0123");
        bytesBehind("00/0", "02");
        bytesBehind("00/1", "02");
        bytesBehind("00/02", "/");
        bytesBehind("000000/00000", "02");
        bytesBehind("00/00/00/00/", "0123");
        bytesBehind("00/00/00/00/00/", "01");
        bytesBehind("00/00/00/00/00/0", "0");
        bytesBehind("00/00/00/00/00/00", "");
        bytesBehind("0/0/0/0/0/", "0");
        bytesBehind("0/0/0/0/0/0", "");
        bytesBehind(SHUT_36.substring(0, 35), "01");
        bytesBehind(SHUT_36.substring(0, 40), "0");
    }

    private static void faultNone() {
        String[] whole = {"0", "00", "10", "111110", "000000", "0/0", "2/0", "20/00", "02/00", "2/2/2/2/2/0", "0/0/0/0/0/0",
            "32/10", "00/00", OPEN_36, SHUT_36, Mazes.SNAKE_36};
        for (String text : whole) Checks.still("4 fault: none in " + text, withText(text), HedgeWays::fault, NONE);
    }

    // ---- 5

    private static void mazeOf(String text, int cells, int last) {
        Checks.then("5 maze: of " + text, withText(text), HedgeWays::maze, cells, text + " A0 B" + last);
        HedgeWays h = new HedgeWays();
        withText(text).on(h);
        h.maze();
        due("5 maze: THE TEXT itself stays", h.about(13), text.length());
        due("5 maze: THE TEXT is no FAULT still", h.fault(), NONE);
        due("5 maze: what was kept stays", h.again(0), 9);
        Checks.due("5 maze: what was kept stays", Checks.told(h), Mazes.OPEN_9 + " A1 B20");
        due("5 maze: none kept stays none", h.again(1), LATE);
        due("5 maze: THE TEXT once more", h.maze(), cells);
        Checks.due("5 maze: THE TEXT once more, GATES anew", Checks.told(h), text + " A0 B" + last);
        due("5 maze: one can write on behind THE TEXT", h.write(1, '4'), text.length() == 41 ? FULL : text.length() + 1);
    }

    private static void maze() {
        mazeOf("0", 1, 0);
        mazeOf("111110", 6, 5);
        mazeOf("000000", 6, 5);
        mazeOf("2/2/2/2/2/0", 6, 50);
        mazeOf("0/0/0/0/0/0", 6, 50);
        mazeOf("32/10", 4, 11);
        mazeOf(OPEN_36, 36, 55);
        mazeOf(SHUT_36, 36, 55);
        mazeOf(Mazes.SNAKE_36, 36, 55);
        Checks.then("5 maze: of the maze that it is, GATES anew", h -> {
            Checks.maze(h, RING);
            h.gates(2, 10);
            h.hedge(0, 1, false);
        }, HedgeWays::maze, 6, RING + " A0 B12");
    }

    // ---- 6

    private static void make() {
        makeBad();
        makeBySeeds();
        makeOfSizes();
        makeStays();
    }

    private static void makeBad() {
        Mazes.badOutside("6 make: rows", 1, 6, (h, n) -> h.make(n, 3, 5L, 0));
        Mazes.badOutside("6 make: rows, way 1", 1, 6, (h, n) -> h.make(n, 3, 5L, 1));
        Mazes.badOutside("6 make: columns", 1, 6, (h, n) -> h.make(3, n, 5L, 0));
        Mazes.badOutside("6 make: columns, way 1", 1, 6, (h, n) -> h.make(3, n, 5L, 1));
        Mazes.badOutside("6 make: way", 0, 1, (h, n) -> h.make(3, 3, 5L, n));
        Mazes.badOutside("6 make: way of one CELL", 0, 1, (h, n) -> h.make(1, 1, 5L, n));
    }

    private static void made(int rows, int columns, long seed, int way, String maze) {
        Checks.then("6 make: " + rows + " by " + columns + ", seed " + seed + ", way " + way, Mazes.holding(RING, 2, 10),
                h -> h.make(rows, columns, seed, way), rows * columns,
                maze + " A0 B" + (10 * (rows - 1) + columns - 1));
    }

    /** The mazes were drawn by another program, with whole numbers of any size. */
    private static void makeBySeeds() {
        made(6, 6, 0L, 0, "312232/023022/332202/221330/202022/011110");
        made(6, 6, -1L, 0, "123312/300210/223030/213012/313232/100100");
        made(6, 6, Long.MIN_VALUE, 0, "123122/231010/213102/123030/330122/011110");
        made(6, 6, Long.MAX_VALUE, 0, "223302/120230/303132/122320/210212/111100");
        made(6, 6, 1L, 0, "332232/203020/030230/331132/202222/110100");
        made(6, 6, 1L << 32, 0, "231110/323022/013232/222120/122132/110100");
        made(6, 6, 0L, 1, "211132/111220/323012/210312/123030/110110");
        made(6, 6, -1L, 1, "123112/222320/303012/210322/232212/101010");
        made(6, 6, Long.MIN_VALUE, 1, "232322/102212/321022/223302/210110/111110");
        made(6, 6, Long.MAX_VALUE, 1, "123232/210222/130220/323012/202312/111010");
        made(6, 6, 1L, 1, "123212/210112/311302/231030/203212/110110");
        made(6, 6, 1L << 32, 1, "231112/221230/232112/201230/231022/101110");
        made(3, 4, 0L, 0, "1232/1322/1000");
        made(3, 4, -1L, 0, "3212/2122/1010");
        made(3, 4, Long.MIN_VALUE, 1, "2322/1022/1110");
        made(3, 4, Long.MAX_VALUE, 1, "1232/2102/1110");
    }

    private static void makeOfSizes() {
        long[] seeds = {0L, -1L, 7L, Long.MIN_VALUE, Long.MAX_VALUE};
        for (int way = 0; way < 2; way++) {
            for (long seed : seeds) {
                made(1, 1, seed, way, "0");
                made(1, 6, seed, way, "111110");
                made(6, 1, seed, way, "2/2/2/2/2/0");
                made(1, 2, seed, way, "10");
                made(2, 1, seed, way, "2/0");
            }
        }
        for (int rows = 1; rows <= 6; rows++) {
            for (int columns = 1; columns <= 6; columns++) {
                for (int way = 0; way < 2; way++) {
                    HedgeWays h = new HedgeWays();
                    due("6 make: how many CELLS", h.make(rows, columns, -5L, way), rows * columns);
                    due("6 make: one PART", h.about(4), 1);
                    due("6 make: no LOOPS", h.about(5), 0);
                }
            }
        }
    }

    private static void makeStays() {
        for (int way = 0; way < 2; way++) {
            HedgeWays h = new HedgeWays();
            Mazes.holding(RING, 2, 10).on(h);
            due("6 make: all is shut first", h.make(2, 3, 9L, way), 6);
            due("6 make: as many openings as a tree has", h.about(3), 5);
            due("6 make: THE TEXT stays", h.about(13), 8);
            due("6 make: THE TEXT stays", h.fault(), NONE);
            due("6 make: what was kept stays", h.again(0), 9);
            Checks.due("6 make: what was kept stays", Checks.told(h), Mazes.OPEN_9 + " A1 B20");
            due("6 make: none kept stays none", h.again(1), LATE);
            h.make(2, 3, 9L, way);
            String once = Checks.told(h);
            h.make(2, 3, 9L, way);
            Checks.due("6 make: by the same SEED the same", Checks.told(h), once);
        }
    }

    // ---- 7

    /** The sides of each cell at which there is no cell, told as pairs. */
    private static int[][] rimOf(int rows, int columns) {
        java.util.List<int[]> rim = new java.util.ArrayList<>();
        for (int c = 0; c < columns; c++) {
            rim.add(new int[] {c, 0});
            rim.add(new int[] {10 * (rows - 1) + c, 2});
        }
        for (int r = 0; r < rows; r++) {
            rim.add(new int[] {10 * r + columns - 1, 1});
            rim.add(new int[] {10 * r, 3});
        }
        return rim.toArray(new int[0][]);
    }

    private static void open() {
        for (int side = 0; side < 4; side++) {
            int s = side;
            Mazes.unknownButCells("7 open: at side " + s, (h, cell) -> h.open(cell, s));
        }
        Mazes.unknownButSides("7 open", (h, side) -> h.open(11, side));
        for (int side : Mazes.NO_SIDES) {
            Checks.still("7 open: no CELL, no SIDE", Mazes.holding(RING), h -> h.open(3, side), UNKNOWN);
        }
        int[][] sizes = {{1, 1}, {1, 6}, {6, 1}, {6, 6}, {2, 3}};
        String[] mazes = {"0", "111110", "2/2/2/2/2/0", OPEN_36, "332/110"};
        for (int i = 0; i < sizes.length; i++) {
            for (int[] r : rimOf(sizes[i][0], sizes[i][1])) {
                Checks.still("7 open: the rim is not", Mazes.holding(mazes[i]), h -> h.open(r[0], r[1]), 0);
            }
        }
        // both cells tell of the one opening between them
        Checks.still("7 open: to the right", Mazes.holding(RING), h -> h.open(1, 1), 1);
        Checks.still("7 open: to the left", Mazes.holding(RING), h -> h.open(2, 3), 1);
        Checks.still("7 open: down", Mazes.holding(RING), h -> h.open(1, 2), 1);
        Checks.still("7 open: up", Mazes.holding(RING), h -> h.open(11, 0), 1);
        Checks.still("7 open: a HEDGE", Mazes.holding(RING), h -> h.open(2, 2), 0);
        Checks.still("7 open: a HEDGE", Mazes.holding(RING), h -> h.open(12, 3), 0);
    }

    // ---- 8

    private static void hedge() {
        Mazes.unknownButCells("8 hedge: put in", (h, cell) -> h.hedge(cell, 1, false));
        Mazes.unknownButCells("8 hedge: taken away", (h, cell) -> h.hedge(cell, 2, true));
        Mazes.unknownButSides("8 hedge: put in", (h, side) -> h.hedge(11, side, false));
        Mazes.unknownButSides("8 hedge: taken away", (h, side) -> h.hedge(0, side, true));
        hedgeUnknownAheadOfLate();
        hedgeRim();
        hedgeFromBothSides();
        hedgeThatIsSo();
    }

    private static void hedgeUnknownAheadOfLate() {
        for (int side : Mazes.NO_SIDES) {
            Checks.still("8 hedge: no SIDE of a CELL alone", Mazes.holding("0"), h -> h.hedge(0, side, true), UNKNOWN);
        }
        for (int cell : new int[] {1, 10, -1, MIN, MAX}) {
            for (int side = 0; side < 4; side++) {
                int s = side;
                Checks.still("8 hedge: no CELL behind the rim", Mazes.holding("0"), h -> h.hedge(cell, s, true), UNKNOWN);
            }
        }
    }

    private static void hedgeRim() {
        int[][] sizes = {{1, 1}, {1, 6}, {6, 1}, {6, 6}, {2, 3}};
        String[] mazes = {"0", "111110", "2/2/2/2/2/0", OPEN_36, RING};
        for (int i = 0; i < sizes.length; i++) {
            for (int[] r : rimOf(sizes[i][0], sizes[i][1])) {
                Checks.Calls before = Mazes.holding(mazes[i]);
                Checks.still("8 hedge: LATE, the rim, taken away", before, h -> h.hedge(r[0], r[1], true), LATE);
                Checks.still("8 hedge: LATE, the rim, put in", before, h -> h.hedge(r[0], r[1], false), LATE);
            }
        }
    }

    private static void hedgeFromBothSides() {
        String[] mazes = {"10", "00"};
        for (int was = 0; was < 2; was++) {
            Checks.Calls across = Mazes.holding(was == 1 ? "10" : "00");
            Checks.Calls along = Mazes.holding(was == 1 ? "2/0" : "0/0");
            for (int then = 0; then < 2; then++) {
                boolean open = then == 1;
                String beside = mazes[1 - then] + " A0 B1";
                String below = (open ? "2/0" : "0/0") + " A0 B10";
                Checks.then("8 hedge: right", across, h -> h.hedge(0, 1, open), was, beside);
                Checks.then("8 hedge: left", across, h -> h.hedge(1, 3, open), was, beside);
                Checks.then("8 hedge: down", along, h -> h.hedge(0, 2, open), was, below);
                Checks.then("8 hedge: up", along, h -> h.hedge(10, 0, open), was, below);
            }
        }
    }

    private static void hedgeThatIsSo() {
        Checks.still("8 hedge: put in where there is one", Mazes.holding(RING), h -> h.hedge(2, 2, false), 0);
        Checks.still("8 hedge: taken away where there is none", Mazes.holding(RING), h -> h.hedge(1, 1, true), 1);
        Checks.then("8 hedge: GATES stay", Mazes.holding(RING, 2, 10), h -> h.hedge(1, 1, false), 1, "320/100 A2 B10");
        HedgeWays h = new HedgeWays();
        Mazes.holding(RING).on(h);
        h.again(0);
        h.hedge(0, 1, false);
        due("8 hedge: what was kept stays", h.again(0), 9);
        Checks.due("8 hedge: what was kept stays", Checks.told(h), Mazes.OPEN_9 + " A1 B20");
    }

    // ---- 9

    private static void gates() {
        Mazes.unknownButCells("9 gates: A", (h, cell) -> h.gates(cell, 0));
        Mazes.unknownButCells("9 gates: B", (h, cell) -> h.gates(0, cell));
        Mazes.unknownButCells("9 gates: both", (h, cell) -> h.gates(cell, cell));
        Checks.then("9 gates: that they were", Mazes.holding(RING), h -> h.gates(12, 1), 12, RING + " A12 B1");
        Checks.then("9 gates: 100 times A", Mazes.holding(RING, 12, 1), h -> h.gates(0, 0), 1201, RING + " A0 B0");
        Checks.then("9 gates: both in one CELL", Mazes.holding(RING, 0, 0), h -> h.gates(11, 11), 0, RING + " A11 B11");
        Checks.then("9 gates: the greatest", Mazes.holding(OPEN_36, 55, 55), h -> h.gates(55, 0), 5555, OPEN_36 + " A55 B0");
        Checks.still("9 gates: as they are", Mazes.holding(RING, 2, 10), h -> h.gates(2, 10), 210);
        HedgeWays h = new HedgeWays();
        Mazes.holding(RING).on(h);
        h.gates(1, 1);
        due("9 gates: those kept stay", h.again(0), 9);
        Checks.due("9 gates: those kept stay", Checks.told(h), Mazes.OPEN_9 + " A1 B20");
    }

    // ---- 10

    private static void figure() {
        Mazes.unknownButCells("10 figure", HedgeWays::figure);
        String[] mazes = {"0", RING, OPEN_36, SHUT_36, Mazes.SNAKE_36, "111110", "2/2/2/2/2/0"};
        for (String maze : mazes) {
            String[] rows = maze.split("/");
            for (int r = 0; r < rows.length; r++) {
                for (int c = 0; c < rows[r].length(); c++) {
                    int cell = 10 * r + c;
                    Checks.still("10 figure: of " + cell + " in " + maze, Mazes.holding(maze), h -> h.figure(cell),
                            rows[r].charAt(c) - '0');
                }
            }
        }
    }
}
