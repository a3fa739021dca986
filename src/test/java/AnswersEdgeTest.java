/** The boundary cases of promises 9 to 15, a method for each sentence. */
public final class AnswersEdgeTest {
    private static final int LR = PaneMultiplexer.LEFT_RIGHT;
    private static final int TB = PaneMultiplexer.TOP_BOTTOM;
    private static final int[] NOT_LIVE = {1, 4, 5, 6, 7, 8, 9, 15, 256, Integer.MAX_VALUE, -1, -2,
        -8, -256, Integer.MIN_VALUE};

    public static void main(String[] args) {
        focusedIsLive();
        countRange();
        rectParts();
        rectRefusals();
        stateParts();
        stateRefusals();
        charsInside();
        charsOfNoPane();
        charsOutside();
        ownerOutside();
        ownerInside();
        ownerOfBorders();
        hostCharOutside();
        hostCharOfPanes();
        hostCharOfBorders();
        hostCharIsCurrent();
        hostSizes();
        nothingChanges();
        Expect.finish();
    }

    /** Columns (0, columns (2, 3)) on 9 by 5, pane 2 focused; 1 was closed. */
    private static PaneMultiplexer three() {
        PaneMultiplexer x = new PaneMultiplexer(9, 5);
        x.split(LR);
        x.split(TB);
        x.split(LR);
        x.focus(1);
        x.close();
        x.focus(2);
        x.setShare(LR, 30);
        x.focus(0);
        x.setShare(LR, 55);
        x.focus(2);
        Expect.type(x, 0, "abcdefghijklmnopqrs~[2;4r~[5;1Htuv~[3;4H~[98;99;");
        Expect.type(x, 2, "01~");
        return x;
    }

    private static void focusedIsLive() {
        Expect.sentence("Promise 9: focused() answers the focused pane's id, which is always live.");
        PaneMultiplexer x = three();
        Expect.same("focused", x.focused(), 2);
        x.focus(1);
        Expect.same("after a refused focus", x.focused(), 2);
        x.close();
        Expect.same("after a close", x.focused(), 3);
        x.close();
        Expect.same("after the last but one", x.focused(), 0);
        x.close();
        Expect.same("after a refused close", x.focused(), 0);
        x.split(0);
        Expect.same("after a refused split", x.focused(), 0);
    }

    private static void countRange() {
        Expect.sentence("Promise 9: paneCount() answers the number of live panes, always in"
            + " 1..MAX_PANES.");
        PaneMultiplexer x = new PaneMultiplexer(24, 12);
        Expect.same("least", x.paneCount(), 1);
        x.close();
        Expect.same("least after a refused close", x.paneCount(), 1);
        for (int i = 0; i < 7; i++) {
            x.split(i % 2 == 0 ? LR : TB);
            Expect.same("count", x.paneCount(), i + 2);
        }
        x.focus(0);
        x.split(LR);
        Expect.same("greatest after a refused split", x.paneCount(), 8);
    }

    private static void rectParts() {
        Expect.sentence("Promise 10: answers RECT_X, RECT_Y, RECT_W or RECT_H of live pane id's"
            + " rectangle");
        PaneMultiplexer x = three();
        Expect.same("0", Expect.rect(x, 0), "0,0,4,5");
        Expect.same("2", Expect.rect(x, 2), "5,0,1,5");
        Expect.same("3", Expect.rect(x, 3), "7,0,2,5");
        PaneMultiplexer low = new PaneMultiplexer(8, 4);
        low.split(TB);
        Expect.same("lower", low.paneRect(1, 0) + "," + low.paneRect(1, 1) + "," + low.paneRect(1, 2)
            + "," + low.paneRect(1, 3), "0,2,8,2");
    }

    private static void rectRefusals() {
        Expect.sentence("Promise 10: It answers -1 if id is not live or part is none of these four.");
        PaneMultiplexer x = three();
        for (int id : NOT_LIVE) {
            for (int part = -1; part <= 4; part++) {
                Expect.same("paneRect(" + id + ", " + part + ")", x.paneRect(id, part), -1);
            }
        }
        for (int part : new int[] {-1, 4, 5, 7, 8, 256, 258, Integer.MIN_VALUE, Integer.MAX_VALUE}) {
            Expect.same("paneRect(3, " + part + ")", x.paneRect(3, part), -1);
        }
    }

    private static void stateParts() {
        Expect.sentence("Promise 11: ST_ROW, ST_COL the cursor row and column; ST_TOP, ST_BOTTOM the"
            + " scroll region; ST_MODE the mode; ST_P1, ST_P2 the parameters; ST_INDEX k");
        PaneMultiplexer x = new PaneMultiplexer(24, 12);
        Expect.type(x, 0, "~[6;9r~[4;8H~[98;99");
        int[] due = {3, 7, 5, 8, 2, 98, 99, 1};
        for (int part = 0; part < 8; part++) {
            Expect.same("paneState(0, " + part + ")", x.paneState(0, part), due[part]);
        }
        PaneMultiplexer y = three();
        Expect.same("mode of 2", y.paneState(2, 4), 1);
        Expect.same("mode of 3", y.paneState(3, 4), 0);
    }

    private static void stateRefusals() {
        Expect.sentence("Promise 11: It answers -1 if id is not live or part is none of these.");
        PaneMultiplexer x = three();
        for (int id : NOT_LIVE) {
            for (int part = -1; part <= 8; part++) {
                Expect.same("paneState(" + id + ", " + part + ")", x.paneState(id, part), -1);
            }
        }
        for (int part : new int[] {-1, 8, 9, 256, 260, Integer.MIN_VALUE, Integer.MAX_VALUE}) {
            Expect.same("paneState(0, " + part + ")", x.paneState(0, part), -1);
        }
    }

    private static void charsInside() {
        Expect.sentence("Promise 12: answers the char at (row, col) of live pane id's screen, always"
            + " in 32..126");
        PaneMultiplexer x = three();
        Expect.same("all", Expect.screen(x, 0), "abcd/efgh/ijkl/mnop/tuv.");
        Expect.same("first", x.paneChar(0, 0, 0), 'a');
        Expect.same("last column", x.paneChar(0, 0, 3), 'd');
        Expect.same("last row", x.paneChar(0, 4, 0), 't');
        Expect.same("last cell", x.paneChar(0, 4, 3), 32);
        PaneMultiplexer y = new PaneMultiplexer(8, 4);
        y.feed(0, 126);
        y.feed(0, 127);
        Expect.same("the greatest char", y.paneChar(0, 0, 0), 126);
        Expect.same("nothing greater", y.paneChar(0, 0, 1), 32);
    }

    private static void charsOfNoPane() {
        Expect.sentence("Promise 12: It answers 0 if id is not live");
        PaneMultiplexer x = three();
        for (int id : NOT_LIVE) {
            Expect.same("paneChar(" + id + ", 0, 0)", x.paneChar(id, 0, 0), 0);
        }
    }

    private static void charsOutside() {
        Expect.sentence("Promise 12: It answers 0 if row < 0, or row >= h, or col < 0, or col >= w of"
            + " that pane");
        PaneMultiplexer x = three();
        for (int row : new int[] {-1, 5, 6, 11, 12, 24, Integer.MIN_VALUE, Integer.MAX_VALUE}) {
            Expect.same("paneChar(0, " + row + ", 1)", x.paneChar(0, row, 1), 0);
        }
        for (int col : new int[] {-1, 4, 5, 8, 9, 23, 24, 25, Integer.MIN_VALUE, Integer.MAX_VALUE}) {
            Expect.same("paneChar(0, 1, " + col + ")", x.paneChar(0, 1, col), 0);
        }
        Expect.same("its own width", x.paneChar(2, 0, 1), 0);
        Expect.same("and a wider one", x.paneChar(3, 0, 1), 32);
        PaneMultiplexer full = new PaneMultiplexer(24, 12);
        Expect.same("the greatest pane", full.paneChar(0, 11, 23), 32);
        Expect.same("a column beyond it", full.paneChar(0, 11, 24), 0);
        Expect.same("a row beyond it", full.paneChar(0, 12, 23), 0);
    }

    private static void ownerOutside() {
        Expect.sentence("Promise 13: answers OWNER_OUTSIDE if row < 0, row >= H, col < 0 or"
            + " col >= W");
        PaneMultiplexer x = three();
        for (int row : new int[] {-1, 5, 6, 11, 12, Integer.MIN_VALUE, Integer.MAX_VALUE}) {
            Expect.same("hostOwner(" + row + ", 4)", x.hostOwner(row, 4), -2);
            Expect.same("hostOwner(" + row + ", 0)", x.hostOwner(row, 0), -2);
        }
        for (int col : new int[] {-1, 9, 10, 23, 24, Integer.MIN_VALUE, Integer.MAX_VALUE}) {
            Expect.same("hostOwner(2, " + col + ")", x.hostOwner(2, col), -2);
        }
        x.resizeHost(10, 6);
        Expect.same("inside the larger host", x.hostOwner(5, 9), 3);
        x.resizeHost(8, 4);
        Expect.same("outside the smaller host", x.hostOwner(4, 0) + " " + x.hostOwner(0, 8), "-2 -2");
    }

    private static void ownerInside() {
        Expect.sentence("Promise 13: otherwise the id of the live pane whose rectangle contains the"
            + " cell, if any");
        PaneMultiplexer x = three();
        Expect.same("first cell", x.hostOwner(0, 0), 0);
        Expect.same("last column of 0", x.hostOwner(4, 3), 0);
        Expect.same("the only column of 2", x.hostOwner(0, 5) + " " + x.hostOwner(4, 5), "2 2");
        Expect.same("first column of 3", x.hostOwner(4, 7), 3);
        Expect.same("last cell", x.hostOwner(4, 8), 3);
    }

    private static void ownerOfBorders() {
        Expect.sentence("Promise 13: otherwise OWNER_BORDER");
        PaneMultiplexer x = three();
        for (int row = 0; row < 5; row++) {
            Expect.same("outer border", x.hostOwner(row, 4), -1);
            Expect.same("inner border", x.hostOwner(row, 6), -1);
        }
        x.focus(0);
        x.split(TB);
        Expect.same("row", "" + x.hostOwner(2, 0) + x.hostOwner(2, 3) + x.hostOwner(2, 4), "-1-1-1");
        Expect.same("no further", x.hostOwner(2, 5), 2);
    }

    private static void hostCharOutside() {
        Expect.sentence("Promise 14: answers 0 if the cell is outside the host");
        PaneMultiplexer x = three();
        for (int row : new int[] {-1, 5, 6, 11, 12, Integer.MIN_VALUE, Integer.MAX_VALUE}) {
            Expect.same("hostChar(" + row + ", 4)", x.hostChar(row, 4), 0);
            Expect.same("hostChar(" + row + ", 0)", x.hostChar(row, 0), 0);
        }
        for (int col : new int[] {-1, 9, 10, 23, 24, Integer.MIN_VALUE, Integer.MAX_VALUE}) {
            Expect.same("hostChar(2, " + col + ")", x.hostChar(2, col), 0);
        }
    }

    private static void hostCharOfPanes() {
        Expect.sentence("Promise 14: paneChar(p, row-y, col-x) if the cell lies in live pane p's"
            + " rectangle (x, y, w, h)");
        PaneMultiplexer x = new PaneMultiplexer(9, 5);
        x.split(LR);
        x.split(TB);
        Expect.type(x, 2, "*~[2;3H+");
        Expect.type(x, 1, "~[1;4H~[1;2r|-");
        Expect.type(x, 0, "-|");
        Expect.same("host", Expect.host(x), "-|..||-../....|..../....|----/....|*.../....|..+.");
        Expect.same("each by its pane", x.hostChar(3, 5) + " " + x.paneChar(2, 0, 0), "* *");
        Expect.same("in the last row", x.hostChar(4, 7) + " " + x.paneChar(2, 1, 2), "+ +");
    }

    private static void hostCharOfBorders() {
        Expect.sentence("Promise 14: otherwise the border char of the split whose border contains it:"
            + " '|' for LEFT_RIGHT, '-' for TOP_BOTTOM");
        PaneMultiplexer x = new PaneMultiplexer(9, 5);
        x.split(TB);
        x.split(LR);
        x.focus(0);
        x.split(LR);
        Expect.same("rows outside", Expect.host(x), "....|..../....|..../---------/....|..../....|....");
        PaneMultiplexer y = new PaneMultiplexer(9, 5);
        y.split(LR);
        y.split(TB);
        y.focus(0);
        y.split(TB);
        Expect.same("columns outside", Expect.host(y),
            "....|..../....|..../----|----/....|..../....|....");
    }

    private static void hostCharIsCurrent() {
        Expect.sentence("Promise 14: It always reflects the current panes and layout");
        PaneMultiplexer x = new PaneMultiplexer(8, 4);
        Expect.type(x, 0, "abcdefg");
        Expect.same("fed", x.hostChar(0, 6), 'g');
        x.split(LR);
        Expect.same("split", x.hostChar(0, 3) + "" + x.hostChar(0, 6), "| ");
        x.setShare(LR, 1);
        Expect.same("share", x.hostChar(0, 1) + "" + x.hostChar(0, 3), "| ");
        Expect.type(x, 1, "z");
        Expect.same("fed again", x.hostChar(0, 2), 'z');
        x.setShare(LR, 99);
        x.resizeHost(9, 4);
        Expect.same("host", x.hostChar(0, 8) + "" + x.hostChar(0, 7), "z|");
        x.focus(0);
        x.close();
        Expect.same("close", x.hostChar(0, 0) + "" + x.hostChar(0, 7), "z ");
    }

    private static void hostSizes() {
        Expect.sentence("Promise 15: answers W for RECT_W, H for RECT_H, and -1 for any other part");
        PaneMultiplexer x = three();
        Expect.same("W", x.hostSize(PaneMultiplexer.RECT_W), 9);
        Expect.same("H", x.hostSize(PaneMultiplexer.RECT_H), 5);
        for (int part : new int[] {PaneMultiplexer.RECT_X, PaneMultiplexer.RECT_Y, -1, -2, 4, 5, 256,
            258, 259, Integer.MIN_VALUE, Integer.MAX_VALUE}) {
            Expect.same("hostSize(" + part + ")", x.hostSize(part), -1);
        }
    }

    private static void nothingChanges() {
        Expect.sentence("Promise 9: Neither changes anything. (focused)");
        asking(Twins.Question.FOCUSED, (x, a, b) -> x.focused());
        Expect.sentence("Promise 9: Neither changes anything. (paneCount)");
        asking(Twins.Question.COUNT, (x, a, b) -> x.paneCount());
        Expect.sentence("Promise 10: It changes nothing.");
        asking(Twins.Question.RECT, (x, a, b) -> x.paneRect(a, b));
        Expect.sentence("Promise 11: It changes nothing.");
        asking(Twins.Question.STATE, (x, a, b) -> x.paneState(a, b));
        Expect.sentence("Promise 12: It changes nothing.");
        asking(Twins.Question.PANE_CHAR, (x, a, b) -> {
            x.paneChar(0, a, b);
            x.paneChar(2, a, b);
            x.paneChar(a, b, 0);
        });
        Expect.sentence("Promise 13: It changes nothing.");
        asking(Twins.Question.OWNER, (x, a, b) -> x.hostOwner(a, b));
        Expect.sentence("Promise 14: and changes nothing.");
        asking(Twins.Question.HOST_CHAR, (x, a, b) -> x.hostChar(a, b));
        Expect.sentence("Promise 15: It changes nothing.");
        asking(Twins.Question.SIZE, (x, a, b) -> x.hostSize(a));
    }

    private interface Asking {
        void ask(PaneMultiplexer x, int a, int b);
    }

    private static void asking(Twins.Question question, Asking asking) {
        int[] some = {Integer.MIN_VALUE, -2, -1, 0, 1, 2, 3, 4, 5, 6, 7, 8, 9, 24, Integer.MAX_VALUE};
        Twins.unchangedByAsking(question, AnswersEdgeTest::three, x -> {
            for (int a : some) {
                for (int b : some) {
                    asking.ask(x, a, b);
                }
            }
        });
    }
}
