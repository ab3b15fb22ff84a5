import java.util.Random;

/** Runs of 512 calls each, drawn by fixed seeds, on a new object and on the model: every answer must be the same. */
public final class RandomRunsTest {
    private static final int RUNS = 400, CALLS = 512, KINDS = 36;

    private final Random random;
    private final HedgeWays program = new HedgeWays();
    private final Model model = new Model();
    private String call = "";

    private RandomRunsTest(long seed) {
        random = new Random(seed);
    }

    public static void main(String[] args) {
        int runs = args.length > 0 ? Integer.parseInt(args[0]) : RUNS;
        long first = args.length > 1 ? Long.parseLong(args[1]) : 0;
        boolean failed = java.util.stream.LongStream.range(first, first + runs).parallel()
                .mapToObj(seed -> new RandomRunsTest(seed).run(seed)).filter(ok -> !ok).count() > 0;
        System.out.println(failed ? "random runs: answers differ" : "random runs: " + runs + " as the model");
        System.exit(failed ? 1 : 0);
    }

    private boolean run(long seed) {
        for (int i = 0; i < CALLS; i++) {
            long[] answers = i % 16 == 0 ? newMaze() : one(random.nextInt(KINDS));
            if (answers[0] != answers[1]) {
                System.out.println("seed " + seed + ", call " + i + ": " + call + " answered " + answers[0]
                        + ", the model says " + answers[1]);
                return false;
            }
        }
        return true;
    }

    /** A cell, mostly one that there is. */
    private int cell() {
        switch (random.nextInt(40)) {
            case 0: return random.nextInt(80) - 10;
            case 1: return random.nextInt();
            default: return 10 * random.nextInt(model.about(1)) + random.nextInt(model.about(2));
        }
    }

    private int around(int least, int beyond) {
        return random.nextInt(20) == 0 ? random.nextInt(beyond - least + 4) + least - 2
                : random.nextInt(100) == 0 ? random.nextInt() : least + random.nextInt(beyond - least);
    }

    private int side() {
        return around(0, 4);
    }

    /** A maze of any size, with many or few openings, made in one of three ways. */
    private long[] newMaze() {
        int rows = 1 + random.nextInt(6), columns = 1 + random.nextInt(6);
        if (random.nextInt(3) > 0) {
            return make(rows, columns, random.nextLong(), random.nextInt(2));
        }
        return readMaze(rows, columns);
    }

    private long[] make(int rows, int columns, long seed, int way) {
        call = "make(" + rows + ", " + columns + ", " + seed + "L, " + way + ")";
        return new long[] {program.make(rows, columns, seed, way), model.make(rows, columns, seed, way)};
    }

    private long[] readMaze(int rows, int columns) {
        writeText(rows, columns);
        call = "maze()";
        return new long[] {program.maze(), model.maze()};
    }

    private void writeText(int rows, int columns) {
        program.wipe();
        model.wipe();
        int dense = 1 + random.nextInt(9);
        StringBuilder text = new StringBuilder();
        for (int r = 0; r < rows; r++) {
            if (r > 0) text.append('/');
            for (int c = 0; c < columns; c++) {
                int right = c < columns - 1 && random.nextInt(10) < dense ? 1 : 0;
                int down = r < rows - 1 && random.nextInt(10) < dense ? 2 : 0;
                text.append((char) ('0' + right + down));
            }
        }
        if (random.nextInt(3) == 0) {
            int at = random.nextInt(text.length());
            switch (random.nextInt(4)) {
                case 0: text.setCharAt(at, "0123/4.".charAt(random.nextInt(7))); break;
                case 1: text.setCharAt(at, (char) random.nextInt(256)); break;
                case 2: text.deleteCharAt(at); break;
                default: text.insert(at, "0123/".charAt(random.nextInt(5))); break;
            }
        }
        int at = 0;
        while (at < text.length()) {
            int n = Math.min(1 + random.nextInt(8), text.length() - at);
            long v = random.nextLong();
            for (int i = 0; i < n; i++) v = v << 8 | text.charAt(at + i);
            program.write(n, v);
            model.write(n, v);
            at += n;
        }
    }

    private long[] pair(String name, long got, long due, Object... args) {
        StringBuilder told = new StringBuilder(name).append('(');
        for (int i = 0; i < args.length; i++) told.append(i == 0 ? "" : ", ").append(args[i]);
        call = told.append(')').toString();
        return new long[] {got, due};
    }

    private long[] one(int kind) {
        int c = cell(), d = cell(), s = side(), k = around(0, 36);
        long v = random.nextLong();
        boolean yes = random.nextBoolean();
        switch (kind) {
            case 0: { int n = around(1, 9); return pair("write", program.write(n, v), model.write(n, v), n, v); }
            case 1: return pair("wipe", program.wipe(), model.wipe());
            case 2: return pair("fault", program.fault(), model.fault());
            case 3: return pair("maze", program.maze(), model.maze());
            case 4: return make(around(1, 7), around(1, 7), v, around(0, 2));
            case 5: return pair("open", program.open(c, s), model.open(c, s), c, s);
            case 6:
            case 7: return pair("hedge", program.hedge(c, s, yes), model.hedge(c, s, yes), c, s, yes);
            case 8: return pair("gates", program.gates(c, d), model.gates(c, d), c, d);
            case 9: return pair("figure", program.figure(c), model.figure(c), c);
            case 10: { int w = around(0, 14); return pair("about", program.about(w), model.about(w), w); }
            case 11: return pair("part", program.part(c), model.part(c), c);
            case 12: return pair("bridge", program.bridge(c, s), model.bridge(c, s), c, s);
            case 13: return pair("must", program.must(c), model.must(c), c);
            case 14: return pair("left", program.left(c), model.left(c), c);
            case 15: return pair("far", program.far(c, d), model.far(c, d), c, d);
            case 16: return pair("ways", program.ways(c, d), model.ways(c, d), c, d);
            case 17: k = around(0, 12); return pair("step", program.step(c, d, k), model.step(c, d, k), c, d, k);
            case 18: return pair("widest", program.widest(c), model.widest(c), c);
            case 19: return pair("hand", program.hand(s, yes), model.hand(s, yes), s, yes);
            case 20:
            case 21: k = kind == 20 ? k : around(0, 1000);
                return pair("handAt", program.handAt(s, yes, k), model.handAt(s, yes, k), s, yes, k);
            case 22: return pair("thread", program.thread(), model.thread());
            case 23: return pair("seen", program.seen(), model.seen());
            case 24: return pair("lost", program.lost(c, d, yes), model.lost(c, d, yes), c, d, yes);
            case 25: return pair("trees", program.trees(c), model.trees(c), c);
            case 26: return pair("breaks", program.breaks(c, d), model.breaks(c, d), c, d);
            case 27: return pair("shortCut", program.shortCut(), model.shortCut());
            case 28: return pair("bar", program.bar(), model.bar());
            case 29:
            case 30: return pair("chase", program.chase(c, d, yes), model.chase(c, d, yes), c, d, yes);
            case 31: { int t = around(0, 8); return pair("same", program.same(t), model.same(t), t); }
            case 32: { int t = around(0, 8); return pair("turn", program.turn(t), model.turn(t), t); }
            case 33: { int slot = around(0, 2); return pair("keep", program.keep(slot), model.keep(slot), slot); }
            case 34: { int slot = around(0, 2); return pair("again", program.again(slot), model.again(slot), slot); }
            default: writeText(1 + random.nextInt(6), 1 + random.nextInt(6));
                return pair("fault", program.fault(), model.fault());
        }
    }
}
