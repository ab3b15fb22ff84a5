import java.util.stream.IntStream;

/** Every maze of at most six cells, asked all that can be asked of it, and every short text, held against the model. */
public final class EveryMazeTest {
    private static final int MOST_CELLS = 6, LONGEST_TEXT = 6;
    private static final String SIGNS = "0123/4";

    private final int rows;
    private final int columns;
    private final int openings;
    private HedgeWays program;
    private Model model;
    private int wrong = 0;

    /** Each bit of openings is a hedge between two cells, in order; it is taken away where the bit is 1. */
    private EveryMazeTest(int rows, int columns, int openings) {
        this.rows = rows;
        this.columns = columns;
        this.openings = openings;
    }

    public static void main(String[] args) {
        int most = args.length > 0 ? Integer.parseInt(args[0]) : MOST_CELLS;
        int wrong = texts();
        int mazes = 0;
        for (int rows = 1; rows <= 6; rows++) {
            for (int columns = 1; columns <= 6 && rows * columns <= most; columns++) {
                int r = rows;
                int c = columns;
                int count = 1 << (rows * (columns - 1) + columns * (rows - 1));
                wrong += IntStream.range(0, count).parallel().map(o -> new EveryMazeTest(r, c, o).all()).sum();
                mazes += count;
            }
        }
        System.out.println("EveryMazeTest: " + mazes + " mazes, " + wrong + " answers not as the model's");
        System.exit(wrong == 0 ? 0 : 1);
    }

    /** Every text of some signs that is no longer than it may be. */
    private static int texts() {
        int wrong = 0;
        for (int length = 0; length <= LONGEST_TEXT; length++) {
            int count = (int) Math.round(Math.pow(SIGNS.length(), length));
            int n = length;
            wrong += IntStream.range(0, count).parallel().map(number -> text(n, number)).sum();
        }
        return wrong;
    }

    private static int text(int length, int number) {
        long v = 0;
        int rest = number;
        for (int i = 0; i < length; i++) {
            v = v << 8 | SIGNS.charAt(rest % SIGNS.length());
            rest /= SIGNS.length();
        }
        EveryMazeTest test = new EveryMazeTest(1, 1, 0);
        test.begin(0, 0);
        test.is("write", test.program.write(length, v), test.model.write(length, v), length);
        test.is("fault of " + Long.toHexString(v), test.program.fault(), test.model.fault());
        test.is("maze of " + Long.toHexString(v), test.program.maze(), test.model.maze());
        test.looksAlike("maze");
        return test.wrong;
    }

    private void is(String call, long got, long due, Object... args) {
        if (got != due) {
            wrong++;
            System.out.println(rows + " x " + columns + ", openings " + openings + ", A " + model.about(11) + ", B "
                    + model.about(12) + ": " + call + java.util.Arrays.toString(args) + " answered " + got
                    + ", the model says " + due);
        }
    }

    /** Two new objects, for one is used for 512 calls at most. */
    private void begin(int a, int b) {
        program = new HedgeWays();
        model = new Model();
        program.make(rows, columns, 0, 0);
        model.make(rows, columns, 0, 0);
        int rest = openings;
        for (int cell : cells()) {
            for (int side = 1; side <= 2; side++) {
                boolean open = rest % 2 == 1;
                if (program.hedge(cell, side, open) < 0) continue;
                model.hedge(cell, side, open);
                rest /= 2;
            }
        }
        is("gates", program.gates(a, b), model.gates(a, b));
    }

    private int[] cells() {
        return IntStream.range(0, rows * columns).map(i -> 10 * (i / columns) + i % columns).toArray();
    }

    private int all() {
        begin(0, 0);
        sides();
        for (int from : cells()) {
            begin(0, 0);
            for (int to : cells()) between(from, to);
        }
        for (int a : cells()) {
            for (int b : cells()) {
                begin(a, b);
                byGates();
                byHands();
                begin(a, b);
                chases();
                turns(a, b);
            }
        }
        return wrong;
    }

    private void looksAlike(String call) {
        for (int what = 0; what < 14; what++) is(call + ", about", program.about(what), model.about(what), what);
        for (int r = 0; r < model.about(1); r++) {
            for (int c = 0; c < model.about(2); c++) {
                is(call + ", figure", program.figure(10 * r + c), model.figure(10 * r + c), 10 * r + c);
            }
        }
    }

    private void sides() {
        for (int c : cells()) {
            is("part", program.part(c), model.part(c), c);
            is("widest", program.widest(c), model.widest(c), c);
            is("trees", program.trees(c), model.trees(c), c);
            for (int s = 0; s < 4; s++) {
                is("open", program.open(c, s), model.open(c, s), c, s);
                is("bridge", program.bridge(c, s), model.bridge(c, s), c, s);
            }
        }
        for (int t = 0; t < 8; t++) is("same", program.same(t), model.same(t), t);
    }

    private void between(int from, int to) {
        is("far", program.far(from, to), model.far(from, to), from, to);
        is("ways", program.ways(from, to), model.ways(from, to), from, to);
        is("breaks", program.breaks(from, to), model.breaks(from, to), from, to);
        is("lost", program.lost(from, to, true), model.lost(from, to, true), from, to, true);
        is("lost", program.lost(from, to, false), model.lost(from, to, false), from, to, false);
        for (int k = -1; k <= rows * columns; k++) {
            is("step", program.step(from, to, k), model.step(from, to, k), from, to, k);
        }
    }

    private void byGates() {
        looksAlike("gates");
        for (int c : cells()) {
            is("must", program.must(c), model.must(c), c);
            is("left", program.left(c), model.left(c), c);
        }
        is("thread", program.thread(), model.thread());
        is("seen", program.seen(), model.seen());
        is("shortCut", program.shortCut(), model.shortCut());
        is("bar", program.bar(), model.bar());
    }

    private void byHands() {
        for (int s = 0; s < 4; s++) {
            for (boolean right : new boolean[] {true, false}) {
                is("hand", program.hand(s, right), model.hand(s, right), s, right);
                for (int k = 0; k < 25; k++) {
                    is("handAt", program.handAt(s, right, k), model.handAt(s, right, k), s, right, k);
                }
            }
        }
    }

    private void chases() {
        for (int c : cells()) {
            for (int d : cells()) {
                is("chase", program.chase(c, d, true), model.chase(c, d, true), c, d, true);
                is("chase", program.chase(c, d, false), model.chase(c, d, false), c, d, false);
            }
        }
    }

    private void turns(int a, int b) {
        for (int t = 0; t < 8; t++) {
            begin(a, b);
            is("turn", program.turn(t), model.turn(t), t);
            looksAlike("turn " + t);
        }
    }
}
