/** The boundary cases of the section "Terms", a method for each sentence. */
public final class TermsEdgeTest {
    private static final int LR = PaneMultiplexer.LEFT_RIGHT;
    private static final int TB = PaneMultiplexer.TOP_BOTTOM;

    public static void main(String[] args) {
        idsEnd();
        liveWhileLeaf();
        oneFocused();
        positionsFromZero();
        blankIsASpace();
        everyCellIsPrintable();
        shareRange();
        leafOrder();
        leastLeaf();
        leastWidthOfColumns();
        leastWidthOfRows();
        leastHeightOfRows();
        leastHeightOfColumns();
        Expect.finish();
    }

    private static void idsEnd() {
        Expect.sentence("Terms: Pane ids are 0..MAX_PANES-1.");
        PaneMultiplexer x = eightPanes();
        Expect.same("focus(-1)", x.focus(-1), false);
        Expect.same("focus(0)", x.focus(0), true);
        Expect.same("focus(7)", x.focus(7), true);
        Expect.same("focus(8)", x.focus(8), false);
    }

    /** Pane 0 on the left and the others beside and below each other to its right. */
    private static PaneMultiplexer eightPanes() {
        PaneMultiplexer x = new PaneMultiplexer(24, 12);
        for (int i = 0; i < 7; i++) {
            Expect.same("split " + i, x.split(i % 2 == 0 ? LR : TB), i + 1);
        }
        return x;
    }

    private static void liveWhileLeaf() {
        Expect.sentence("Terms: A pane is live while it is a leaf of the tree.");
        PaneMultiplexer x = new PaneMultiplexer(8, 4);
        Expect.same("before the split", x.feed(1, 'a'), false);
        x.split(LR);
        Expect.same("while a leaf", x.feed(1, 'a'), true);
        x.split(TB);
        Expect.same("a leaf that was split", x.feed(1, 'a'), true);
        x.focus(1);
        x.close();
        Expect.same("after the close", x.feed(1, 'a'), false);
        Expect.same("its sibling", x.feed(2, 'a'), true);
        x.split(TB);
        Expect.same("made again", x.feed(1, 'a'), true);
    }

    private static void oneFocused() {
        Expect.sentence("Terms: Exactly one live pane is focused at all times.");
        PaneMultiplexer x = eightPanes();
        for (int left = 8; left > 0; left--) {
            Expect.same("a live one of " + left, x.focus(x.focused()), true);
            x.split(LR);
            Expect.same("a live one after a split", x.focus(x.focused()), true);
            x.close();
        }
        x.close();
        Expect.same("the last one", x.focus(x.focused()), true);
    }

    private static void positionsFromZero() {
        Expect.sentence("Terms: row 0 is the top, col 0 the left.");
        PaneMultiplexer x = new PaneMultiplexer(24, 12);
        Expect.type(x, 0, "a~[1;2r~[12;24Hz~[1;24Hr~[12;1Hl");
        Expect.same("top left", x.hostChar(0, 0), 'a');
        Expect.same("bottom right", x.hostChar(11, 23), 'z');
        Expect.same("top right", x.paneChar(0, 0, 23), 'r');
        Expect.same("bottom left", x.paneChar(0, 11, 0), 'l');
    }

    private static void blankIsASpace() {
        Expect.sentence("Terms: A blank cell holds ' ' (32).");
        PaneMultiplexer x = new PaneMultiplexer(8, 4);
        Expect.same("of a new object", x.paneChar(0, 3, 7), 32);
        Expect.type(x, 0, "abc~[1;2H~[K");
        Expect.same("erased line", x.paneChar(0, 0, 1), 32);
        Expect.type(x, 0, "~[J");
        Expect.same("erased screen", x.paneChar(0, 0, 0), 32);
        Expect.type(x, 0, "~[4;1Hx~[S");
        Expect.same("scrolled", x.paneChar(0, 3, 0), 32);
        x.resizeHost(9, 5);
        Expect.same("new column", x.paneChar(0, 0, 8), 32);
        Expect.same("new row", x.paneChar(0, 4, 0), 32);
        x.split(LR);
        Expect.same("of a new pane", x.paneChar(1, 0, 0), 32);
    }

    private static void everyCellIsPrintable() {
        Expect.sentence("Terms: Every pane cell always holds a char in 32..126.");
        for (int b = 0; b < 256; b++) {
            PaneMultiplexer x = new PaneMultiplexer(8, 4);
            for (int i = 0; i < 40; i++) {
                x.feed(0, b);
            }
            x.resizeHost(12, 6);
            for (int cell = 0; cell < 72; cell++) {
                char c = x.paneChar(0, cell / 12, cell % 12);
                if (c < 32 || c > 126) {
                    Expect.same("cell " + cell + " after " + b, c, -1);
                }
            }
            Expect.same("asked after " + b, x.paneChar(0, 5, 11), 32);
        }
    }

    private static void shareRange() {
        Expect.sentence("Terms: a share s in 1..99");
        // 23 times the first of these runs over the largest int and comes out near 1150, as if
        // the share were 50; the second does the same on the negative side.
        int[] percents = {186737758, -186737658, 0, 100, 1, 99};
        int[] lefts = {22, 1, 1, 22, 1, 22};
        for (int i = 0; i < percents.length; i++) {
            PaneMultiplexer x = new PaneMultiplexer(24, 4);
            x.split(LR);
            x.setShare(LR, percents[i]);
            Expect.same("left at " + percents[i], x.paneRect(0, PaneMultiplexer.RECT_W), lefts[i]);
        }
    }

    private static void leafOrder() {
        Expect.sentence("Terms: Leaf order is depth-first, first child before second child.");
        PaneMultiplexer x = new PaneMultiplexer(24, 12);
        x.split(LR);
        x.split(TB);
        x.focus(0);
        x.split(TB);
        x.split(LR);
        x.focus(0);
        x.split(LR);
        int[] due = {5, 3, 4, 1, 2, 0};
        x.focus(0);
        for (int id : due) {
            Expect.same("next", x.focusNext(), id);
        }
    }

    private static void leastLeaf() {
        Expect.sentence("Terms: minW(leaf) = 1; minH(leaf) = 1");
        PaneMultiplexer x = new PaneMultiplexer(8, 4);
        x.split(LR);
        x.setShare(LR, 1);
        Expect.same("narrowest first", Expect.rect(x, 0), "0,0,1,4");
        x.setShare(LR, 99);
        Expect.same("narrowest second", Expect.rect(x, 1), "7,0,1,4");
        PaneMultiplexer y = new PaneMultiplexer(8, 4);
        y.split(TB);
        y.setShare(TB, 1);
        Expect.same("lowest first", Expect.rect(y, 0), "0,0,8,1");
        y.setShare(TB, 99);
        Expect.same("lowest second", Expect.rect(y, 1), "0,3,8,1");
    }

    private static void leastWidthOfColumns() {
        Expect.sentence("Terms: minW(LEFT_RIGHT split) = minW(first) + 1 + minW(second)");
        // Five panes in a row need 9 columns, whichever side holds the inner splits.
        for (int side = 0; side < 2; side++) {
            PaneMultiplexer x = new PaneMultiplexer(24, 4);
            x.split(LR);
            for (int i = 0; i < 3; i++) {
                x.focus(side == 0 ? 0 : x.paneCount() - 1);
                x.setShare(LR, side == 0 ? 99 : 1);
                x.split(LR);
            }
            Expect.same("panes", x.paneCount(), 5);
            Expect.same("8 columns", x.resizeHost(8, 4), false);
            Expect.same("9 columns", x.resizeHost(9, 4), true);
        }
    }

    private static void leastWidthOfRows() {
        Expect.sentence("Terms: minW(TOP_BOTTOM split) = max(minW(first), minW(second))");
        for (int side = 0; side < 2; side++) {
            PaneMultiplexer x = new PaneMultiplexer(24, 4);
            x.split(TB);
            rowOfFive(x, side, LR);
            Expect.same("8 columns for five in a row", x.resizeHost(8, 4), false);
            Expect.same("9 columns for five in a row", x.resizeHost(9, 4), true);
        }
        PaneMultiplexer even = new PaneMultiplexer(24, 4);
        even.split(TB);
        for (int side : new int[] {0, 1}) {
            even.focus(side);
            int half = even.split(LR);
            even.split(LR);
            even.focus(side);
            even.split(LR);
            Expect.same("right half", even.focus(half), true);
        }
        Expect.same("panes", even.paneCount(), 8);
        Expect.same("twice four in a row", even.resizeHost(8, 4), true);
    }

    /** Splits pane id into five of the one orientation, by halves. */
    private static void rowOfFive(PaneMultiplexer x, int id, int orient) {
        x.focus(id);
        int half = x.split(orient);
        x.split(orient);
        x.focus(id);
        x.split(orient);
        x.focus(half);
        x.setShare(orient, 99);
        Expect.same("the fifth", x.split(orient) > 0, true);
    }

    private static void leastHeightOfRows() {
        Expect.sentence("Terms: minH(TOP_BOTTOM split) = minH(first) + 1 + minH(second)");
        for (int side = 0; side < 2; side++) {
            PaneMultiplexer x = new PaneMultiplexer(8, 12);
            x.split(TB);
            x.focus(side);
            x.split(TB);
            Expect.same("4 rows for three", x.resizeHost(8, 4), false);
            Expect.same("5 rows for three", x.resizeHost(8, 5), true);
        }
        PaneMultiplexer six = new PaneMultiplexer(8, 12);
        six.split(TB);
        six.split(TB);
        six.split(TB);
        six.focus(0);
        six.split(TB);
        six.setShare(TB, 1);
        six.split(TB);
        Expect.same("panes", six.paneCount(), 6);
        Expect.same("10 rows for six", six.resizeHost(8, 10), false);
        Expect.same("11 rows for six", six.resizeHost(8, 11), true);
    }

    private static void leastHeightOfColumns() {
        Expect.sentence("Terms: minH(LEFT_RIGHT split) = max(minH(first), minH(second))");
        for (int side = 0; side < 2; side++) {
            PaneMultiplexer x = new PaneMultiplexer(8, 12);
            x.split(LR);
            x.focus(side);
            x.split(TB);
            x.split(TB);
            Expect.same("4 rows for three", x.resizeHost(8, 4), false);
            Expect.same("5 rows for three", x.resizeHost(8, 5), true);
        }
        PaneMultiplexer even = new PaneMultiplexer(8, 12);
        even.split(LR);
        even.split(TB);
        even.focus(0);
        even.split(TB);
        Expect.same("twice two in a column", even.resizeHost(8, 4), true);
    }
}
