/** What the tests share: counting wrong answers, feeding text, and reading a whole object. */
final class Expect {
    private static int wrong = 0;
    private static int asked = 0;
    private static String sentence = "";

    private Expect() {
    }

    /** Names the sentence of the document that the answers asked from here on belong to. */
    static void sentence(String text) {
        sentence = "[" + text + "] ";
    }

    static void same(String what, long got, long want) {
        asked++;
        if (got != want) {
            report(what, String.valueOf(got), String.valueOf(want));
        }
    }

    static void same(String what, boolean got, boolean want) {
        asked++;
        if (got != want) {
            report(what, String.valueOf(got), String.valueOf(want));
        }
    }

    static void same(String what, String got, String want) {
        asked++;
        if (!got.equals(want)) {
            report(what, got, want);
        }
    }

    private static void report(String what, String got, String want) {
        wrong++;
        System.out.println(sentence + what + " answered " + got + ", due is " + want);
    }

    static int wrongAnswers() {
        return wrong;
    }

    /** Ends the test program; an empty test counts as a failed one. */
    static void finish() {
        System.out.println(asked + " answers asked, " + wrong + " wrong");
        if (wrong != 0 || asked == 0) {
            System.exit(1);
        }
    }

    /** Feeds text byte by byte; '~' stands for ESC. */
    static void type(PaneMultiplexer x, int id, String text) {
        for (char c : text.toCharArray()) {
            int b = c == '~' ? 27 : c;
            same("feed(" + id + ", " + b + ")", x.feed(id, b), true);
        }
    }

    /** The pane's rows, joined by '/', with '.' for a blank. */
    static String screen(PaneMultiplexer x, int id) {
        StringBuilder text = new StringBuilder();
        for (int row = 0; row < x.paneRect(id, PaneMultiplexer.RECT_H); row++) {
            text.append(row == 0 ? "" : "/");
            for (int col = 0; col < x.paneRect(id, PaneMultiplexer.RECT_W); col++) {
                text.append(shown(x.paneChar(id, row, col)));
            }
        }
        return text.toString();
    }

    /** The host's rows, joined by '/', with '.' for a blank. */
    static String host(PaneMultiplexer x) {
        StringBuilder text = new StringBuilder();
        for (int row = 0; row < x.hostSize(PaneMultiplexer.RECT_H); row++) {
            text.append(row == 0 ? "" : "/");
            for (int col = 0; col < x.hostSize(PaneMultiplexer.RECT_W); col++) {
                text.append(shown(x.hostChar(row, col)));
            }
        }
        return text.toString();
    }

    /** The owners of the host's cells by rows, with 'b' for a border. */
    static String owners(PaneMultiplexer x) {
        StringBuilder text = new StringBuilder();
        for (int row = 0; row < x.hostSize(PaneMultiplexer.RECT_H); row++) {
            text.append(row == 0 ? "" : "/");
            for (int col = 0; col < x.hostSize(PaneMultiplexer.RECT_W); col++) {
                int owner = x.hostOwner(row, col);
                text.append(owner == PaneMultiplexer.OWNER_BORDER ? "b" : String.valueOf(owner));
            }
        }
        return text.toString();
    }

    private static char shown(char c) {
        return c == ' ' ? '.' : c;
    }

    /** The rectangle as "x,y,w,h". */
    static String rect(PaneMultiplexer x, int id) {
        return x.paneRect(id, PaneMultiplexer.RECT_X) + "," + x.paneRect(id, PaneMultiplexer.RECT_Y)
            + "," + x.paneRect(id, PaneMultiplexer.RECT_W) + ","
            + x.paneRect(id, PaneMultiplexer.RECT_H);
    }

    /** The cursor as "row,col". */
    static String cursor(PaneMultiplexer x, int id) {
        return x.paneState(id, PaneMultiplexer.ST_ROW) + "," + x.paneState(id, PaneMultiplexer.ST_COL);
    }

    /** The scroll region as "top,bottom". */
    static String region(PaneMultiplexer x, int id) {
        return x.paneState(id, PaneMultiplexer.ST_TOP) + "," + x.paneState(id, PaneMultiplexer.ST_BOTTOM);
    }

    /** The parser as "mode,p1,p2,k". */
    static String parser(PaneMultiplexer x, int id) {
        return x.paneState(id, PaneMultiplexer.ST_MODE) + "," + x.paneState(id, PaneMultiplexer.ST_P1)
            + "," + x.paneState(id, PaneMultiplexer.ST_P2) + ","
            + x.paneState(id, PaneMultiplexer.ST_INDEX);
    }

    /** All that can be asked about one pane. */
    static String pane(PaneMultiplexer x, int id) {
        return id + " [" + rect(x, id) + "] " + cursor(x, id) + " " + region(x, id) + " "
            + parser(x, id) + " " + screen(x, id);
    }

    /** All that can be asked about the object. */
    static String all(PaneMultiplexer x) {
        StringBuilder text = new StringBuilder();
        text.append("host ").append(x.hostSize(PaneMultiplexer.RECT_W)).append('x');
        text.append(x.hostSize(PaneMultiplexer.RECT_H)).append(" focused ").append(x.focused());
        text.append(" count ").append(x.paneCount()).append('\n');
        for (int id = 0; id < PaneMultiplexer.MAX_PANES; id++) {
            text.append(pane(x, id)).append('\n');
        }
        return text.append(owners(x)).append('\n').append(host(x)).toString();
    }
}
