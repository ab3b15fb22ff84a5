/** What the tests share: answers held against what is due, and mazes told as texts. */
final class Checks {
    private static int wrong = 0;
    private static int asked = 0;

    private Checks() {
    }

    static void due(String what, long got, long want) {
        asked++;
        if (got != want) {
            wrong++;
            System.out.println(what + " answered " + got + ", due is " + want);
        }
    }

    static void due(String what, String got, String want) {
        asked++;
        if (!got.equals(want)) {
            wrong++;
            System.out.println(what + " is " + got + ", due is " + want);
        }
    }

    /** Tells how it went and ends the machine. */
    static void end(String name) {
        System.out.println(name + ": " + asked + " answers, " + wrong + " not as due");
        System.exit(wrong == 0 ? 0 : 1);
    }

    /** Makes a text THE TEXT, a byte a call. */
    static HedgeWays text(HedgeWays h, String text) {
        h.wipe();
        for (int i = 0; i < text.length(); i++) h.write(1, text.charAt(i));
        return h;
    }

    static HedgeWays maze(HedgeWays h, String text) {
        text(h, text);
        due("maze() of " + text, h.maze(), text.replace("/", "").length());
        return h;
    }

    static HedgeWays maze(String text) {
        return maze(new HedgeWays(), text);
    }

    /** THE MAZE as a text, and its gates. */
    static String told(HedgeWays h) {
        StringBuilder told = new StringBuilder();
        for (int r = 0; r < h.about(1); r++) {
            if (r > 0) told.append('/');
            for (int c = 0; c < h.about(2); c++) told.append(h.figure(10 * r + c));
        }
        return told.append(" A").append(h.about(11)).append(" B").append(h.about(12)).toString();
    }
}
