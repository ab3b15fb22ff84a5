/** What the tests share: answers held against what is due, and mazes told as texts. */
final class Checks {
    private static int wrong = 0;
    private static int asked = 0;

    private Checks() {
    }

    /** Calls by which an object comes to where a test wants it. */
    interface Calls {
        void on(HedgeWays h);
    }

    /** One call, whose answer is looked at. */
    interface Ask {
        long of(HedgeWays h);
    }

    /** One call about a cell. */
    interface AskOfCell {
        long of(HedgeWays h, int cell);
    }

    static void due(String what, long got, long want) {
        asked++;
        if (got != want) {
            wrong++;
            System.out.println(what + " answered " + got + ", due is " + want);
        }
    }

    static void due(String what, String got, String want) {
        asked++;
        if (!got.equals(want)) {
            wrong++;
            System.out.println(what + " is " + got + ", due is " + want);
        }
    }

    /** A call that changes nothing, a refused one too: another object that never heard of it is then just the same. */
    static void still(String what, Calls before, Ask ask, long want) {
        HedgeWays asked = new HedgeWays();
        HedgeWays silent = new HedgeWays();
        before.on(asked);
        before.on(silent);
        due(what, ask.of(asked), want);
        due(what + ": nothing is changed; all of it", whole(asked), whole(silent));
    }

    /** A call, and THE MAZE with its gates behind it. */
    static void then(String what, Calls before, Ask ask, long want, String told) {
        HedgeWays h = new HedgeWays();
        before.on(h);
        due(what, ask.of(h), want);
        due(what + ": THE MAZE then", told(h), told);
    }

    /** Tells how it went and ends the machine. */
    static void end(String name) {
        System.out.println(name + ": " + asked + " answers, " + wrong + " not as due");
        System.exit(wrong == 0 ? 0 : 1);
    }

    /** Makes a text THE TEXT, a byte a call. */
    static HedgeWays text(HedgeWays h, String text) {
        h.wipe();
        for (int i = 0; i < text.length(); i++) h.write(1, text.charAt(i));
        return h;
    }

    static HedgeWays maze(HedgeWays h, String text) {
        text(h, text);
        due("maze() of " + text, h.maze(), text.replace("/", "").length());
        return h;
    }

    static HedgeWays maze(String text) {
        return maze(new HedgeWays(), text);
    }

    /** THE MAZE as a text, and its gates. */
    static String told(HedgeWays h) {
        StringBuilder told = new StringBuilder();
        int rows = h.about(1);
        int columns = h.about(2);
        for (int r = 0; r < rows; r++) {
            if (r > 0) told.append('/');
            for (int c = 0; c < columns; c++) told.append(h.figure(10 * r + c));
        }
        return told.append(" A").append(h.about(11)).append(" B").append(h.about(12)).toString();
    }

    /** All that an object holds: THE MAZE, THE TEXT, what is kept. It is used up by this: another maze is in it then. */
    static String whole(HedgeWays h) {
        StringBuilder all = new StringBuilder(told(h)).append(", about");
        for (int what = 3; what <= 10; what++) all.append(' ').append(h.about(what));
        all.append("; ").append(h.about(13)).append(" bytes, fault ").append(h.fault());
        for (int slot = 0; slot < 2; slot++) {
            all.append("; slot ").append(slot).append(' ').append(h.again(slot)).append(' ').append(told(h));
        }
        return all.append("; the text ").append(h.maze()).append(' ').append(told(h)).toString();
    }
}
