/** The boundary cases of the section "Layout", a method for each sentence. */
public final class LayoutEdgeTest {
    private static final int LR = PaneMultiplexer.LEFT_RIGHT;
    private static final int TB = PaneMultiplexer.TOP_BOTTOM;

    public static void main(String[] args) {
        rootFillsTheHost();
        divisionRoundsDown();
        raisedToTheFirstsLeast();
        loweredForTheSecondsLeast();
        exactRoom();
        childrenOfColumns();
        borderOfColumns();
        rowsAreTheSame();
        borderOfRows();
        everyPaneHasACell();
        everyCellHasOnePlace();
        recomputedAfterAClose();
        everyPaneIsFitted();
        Expect.finish();
    }

    private static void rootFillsTheHost() {
        Expect.sentence("Layout: The root gets the rectangle (x=0, y=0, w=W, h=H)");
        PaneMultiplexer x = new PaneMultiplexer(8, 4);
        Expect.same("least", Expect.rect(x, 0), "0,0,8,4");
        x.resizeHost(24, 12);
        Expect.same("greatest", Expect.rect(x, 0), "0,0,24,12");
        x.split(LR);
        x.focus(0);
        x.close();
        Expect.same("a right leaf that became root", Expect.rect(x, 1), "0,0,24,12");
        x.split(TB);
        Expect.same("a split as root, its first", Expect.rect(x, 1), "0,0,24,5");
        Expect.same("a split as root, its second", Expect.rect(x, 0), "0,6,24,6");
        x.focus(1);
        x.close();
        Expect.same("a lower leaf that became root", Expect.rect(x, 0), "0,0,24,12");
    }

    private static void divisionRoundsDown() {
        Expect.sentence("Layout: v = ((n-1)*s)/100 (integer division)");
        PaneMultiplexer x = new PaneMultiplexer(24, 4);
        x.split(LR);
        // 23 * 13 = 299, 23 * 87 = 2001, 23 * 74 = 1702, 23 * 26 = 598, 23 * 61 = 1403
        int[] percents = {13, 87, 74, 26, 61, 60};
        int[] due = {2, 20, 17, 5, 14, 13};
        for (int i = 0; i < percents.length; i++) {
            x.setShare(LR, percents[i]);
            Expect.same("of 23 at " + percents[i], x.paneRect(0, PaneMultiplexer.RECT_W), due[i]);
        }
        PaneMultiplexer y = new PaneMultiplexer(8, 11);
        y.split(TB);
        for (int percent = 19; percent <= 21; percent++) {
            y.setShare(TB, percent);
            Expect.same("of 10 at " + percent, y.paneRect(0, PaneMultiplexer.RECT_H),
                percent == 19 ? 1 : 2);
        }
    }

    private static void raisedToTheFirstsLeast() {
        Expect.sentence("Layout: if v < minW(first) then v = minW(first)");
        PaneMultiplexer x = new PaneMultiplexer(24, 12);
        x.split(LR);
        x.focus(0);
        x.split(LR);
        x.split(TB);
        x.focus(1);
        // The left side needs 3 columns; 23 * 13 / 100 = 2, 23 * 14 / 100 = 3, 23 * 18 / 100 = 4.
        int[] percents = {1, 13, 14, 18};
        int[] due = {4, 4, 4, 5};
        for (int i = 0; i < percents.length; i++) {
            x.setShare(LR, percents[i]);
            Expect.same("right side at " + percents[i], x.paneRect(1, PaneMultiplexer.RECT_X), due[i]);
        }
        PaneMultiplexer y = new PaneMultiplexer(8, 12);
        y.split(TB);
        y.focus(0);
        y.split(TB);
        y.focus(1);
        int[] shares = {1, 27, 28, 37};
        int[] tops = {4, 4, 4, 5};
        for (int i = 0; i < shares.length; i++) {
            y.setShare(TB, shares[i]);
            Expect.same("lower side at " + shares[i], y.paneRect(1, PaneMultiplexer.RECT_Y), tops[i]);
        }
    }

    private static void loweredForTheSecondsLeast() {
        Expect.sentence("Layout: if v > n-1-minW(second), v = n-1-minW(second)");
        PaneMultiplexer x = new PaneMultiplexer(24, 12);
        x.split(LR);
        x.split(LR);
        x.focus(0);
        // The right side needs 3 columns, which leaves 20; 23 * 83 / 100 = 19, 23 * 87 / 100 = 20.
        int[] percents = {83, 87, 92, 99};
        int[] due = {19, 20, 20, 20};
        for (int i = 0; i < percents.length; i++) {
            x.setShare(LR, percents[i]);
            Expect.same("left side at " + percents[i], x.paneRect(0, PaneMultiplexer.RECT_W), due[i]);
        }
        PaneMultiplexer y = new PaneMultiplexer(8, 12);
        y.split(TB);
        y.split(TB);
        y.focus(0);
        int[] shares = {72, 73, 82, 99};
        int[] heights = {7, 8, 8, 8};
        for (int i = 0; i < shares.length; i++) {
            y.setShare(TB, shares[i]);
            Expect.same("upper side at " + shares[i], y.paneRect(0, PaneMultiplexer.RECT_H), heights[i]);
        }
    }

    /** Five panes in nine columns, in the order 0, 3, 4, 1, 2. */
    private static PaneMultiplexer fiveInNine() {
        PaneMultiplexer x = new PaneMultiplexer(9, 4);
        x.split(LR);
        x.split(LR);
        x.focus(0);
        x.setShare(LR, 99);
        x.split(LR);
        x.setShare(LR, 1);
        Expect.same("the fifth", x.split(LR), 4);
        return x;
    }

    private static void exactRoom() {
        Expect.sentence("Layout: v = minW(first); then, if v > n-1-minW(second), both at once");
        for (int id = 0; id < 5; id++) {
            for (int percent : new int[] {1, 50, 99}) {
                PaneMultiplexer x = fiveInNine();
                x.focus(id);
                Expect.same("share", x.setShare(LR, percent), true);
                Expect.same("one column each", Expect.owners(x),
                    ("/0b3b4b1b2").repeat(4).substring(1));
            }
        }
        PaneMultiplexer rows = new PaneMultiplexer(8, 5);
        rows.split(TB);
        rows.setShare(TB, 1);
        rows.split(TB);
        rows.focus(0);
        for (int percent : new int[] {1, 50, 99}) {
            rows.setShare(TB, percent);
            Expect.same("one row each", Expect.rect(rows, 0) + " " + Expect.rect(rows, 1) + " "
                + Expect.rect(rows, 2), "0,0,8,1 0,2,8,1 0,4,8,1");
        }
    }

    /** Pane 0 left, 1 top right, and 2 and 3 beside each other at the bottom right. */
    private static PaneMultiplexer nested() {
        PaneMultiplexer x = new PaneMultiplexer(12, 7);
        x.split(LR);
        x.split(TB);
        x.split(LR);
        return x;
    }

    private static void childrenOfColumns() {
        Expect.sentence("Layout: The first child gets (x, y, v, h), the second gets"
            + " (x+v+1, y, w-v-1, h).");
        PaneMultiplexer x = nested();
        Expect.same("outer first", Expect.rect(x, 0), "0,0,5,7");
        Expect.same("inner first", Expect.rect(x, 2), "6,4,2,3");
        Expect.same("inner second", Expect.rect(x, 3), "9,4,3,3");
    }

    private static void borderOfColumns() {
        Expect.sentence("Layout: The cells of column x+v, rows y..y+h-1, are this split's border"
            + " and show '|' (124).");
        PaneMultiplexer x = nested();
        Expect.same("outer, first row", x.hostChar(0, 5), 124);
        Expect.same("outer, last row", x.hostChar(6, 5), 124);
        Expect.same("inner, first row", x.hostChar(4, 8), 124);
        Expect.same("inner, last row", x.hostChar(6, 8), 124);
        Expect.same("above the inner", x.hostChar(3, 8), 45);
        Expect.same("further above the inner", x.hostOwner(2, 8), 1);
        Expect.same("left of the inner", x.hostOwner(4, 7), 2);
        Expect.same("right of the inner", x.hostOwner(4, 9), 3);
    }

    private static void rowsAreTheSame() {
        Expect.sentence("Layout: first child (x, y, w, v), second child (x, y+v+1, w, h-v-1)");
        PaneMultiplexer x = nested();
        Expect.same("upper", Expect.rect(x, 1), "6,0,6,3");
        x.focus(3);
        x.split(TB);
        Expect.same("inner upper", Expect.rect(x, 3), "9,4,3,1");
        Expect.same("inner lower", Expect.rect(x, 4), "9,6,3,1");
    }

    private static void borderOfRows() {
        Expect.sentence("Layout: The cells of row y+v, cols x..x+w-1, are its border and show"
            + " '-' (45).");
        PaneMultiplexer x = nested();
        x.focus(0);
        x.split(TB);
        x.setShare(TB, 1);
        Expect.same("left, first column", x.hostChar(1, 0), 45);
        Expect.same("left, last column", x.hostChar(1, 4), 45);
        Expect.same("beyond the left", x.hostChar(1, 5), 124);
        Expect.same("further beyond the left", x.hostOwner(1, 6), 1);
        Expect.same("before the right", x.hostChar(3, 5), 124);
        Expect.same("right, first column", x.hostChar(3, 6), 45);
        Expect.same("right, last column", x.hostChar(3, 11), 45);
        Expect.same("above the right", x.hostOwner(2, 6), 1);
        Expect.same("below the right", x.hostOwner(4, 6), 2);
    }

    private static void everyPaneHasACell() {
        Expect.sentence("Layout: each live pane's rectangle has width and height at least 1 and"
            + " lies inside the host");
        for (PaneMultiplexer x : new PaneMultiplexer[] {fiveInNine(), crowded()}) {
            for (int percent : new int[] {1, 99}) {
                for (int i = 0; i < 8; i++) {
                    x.focusNext();
                    x.setShare(LR, percent);
                    x.setShare(TB, percent);
                    everyRectangle(x);
                }
            }
        }
    }

    private static void everyRectangle(PaneMultiplexer x) {
        for (int id = 0; id < x.paneCount(); id++) {
            int left = x.paneRect(id, PaneMultiplexer.RECT_X);
            int top = x.paneRect(id, PaneMultiplexer.RECT_Y);
            int w = x.paneRect(id, PaneMultiplexer.RECT_W);
            int h = x.paneRect(id, PaneMultiplexer.RECT_H);
            Expect.same("width " + w, w >= 1, true);
            Expect.same("height " + h, h >= 1, true);
            Expect.same("first cell", left >= 0 && top >= 0, true);
            Expect.same("last column", left + w <= x.hostSize(PaneMultiplexer.RECT_W), true);
            Expect.same("last row", top + h <= x.hostSize(PaneMultiplexer.RECT_H), true);
        }
    }

    /** Eight panes in the least host: twice four beside each other. */
    private static PaneMultiplexer crowded() {
        PaneMultiplexer x = new PaneMultiplexer(24, 4);
        x.split(TB);
        for (int side : new int[] {0, 1}) {
            x.focus(side);
            x.split(LR);
            x.split(LR);
            x.focus(side);
            x.split(LR);
        }
        Expect.same("panes", x.paneCount(), 8);
        Expect.same("into the least host", x.resizeHost(8, 4), true);
        return x;
    }

    private static void everyCellHasOnePlace() {
        Expect.sentence("Layout: every host cell inside the host lies either in exactly one live"
            + " pane's rectangle or on a split border");
        Cover.everyCell("one pane", new PaneMultiplexer(8, 4));
        Cover.everyCell("five in nine columns", fiveInNine());
        PaneMultiplexer x = crowded();
        Cover.everyCell("eight in the least host", x);
        for (int left = 7; left > 0; left--) {
            x.focusNext();
            x.close();
            Cover.everyCell("down to " + left, x);
        }
    }

    private static void recomputedAfterAClose() {
        Expect.sentence("Layout: The layout is recomputed at the end of every call that changes"
            + " the tree, a share or the host size.");
        PaneMultiplexer x = new PaneMultiplexer(9, 4);
        x.split(LR);
        x.focus(0);
        x.split(LR);
        x.focus(1);
        x.setShare(LR, 1);
        Expect.same("share", Expect.owners(x).substring(0, 9), "0b2b11111");
        x.focus(2);
        x.close();
        Expect.same("the least of the left side fell", Expect.owners(x).substring(0, 9), "0b1111111");
        x.split(TB);
        Expect.same("split", Expect.owners(x), "0b1111111/bb1111111/2b1111111/2b1111111");
        x.resizeHost(10, 5);
        Expect.same("host", Expect.owners(x),
            "0b11111111/0b11111111/bb11111111/2b11111111/2b11111111");
    }

    private static void everyPaneIsFitted() {
        Expect.sentence("Layout: Then the RESIZE RULE is applied to every live pane that existed"
            + " before the call.");
        PaneMultiplexer x = new PaneMultiplexer(9, 4);
        x.split(LR);
        x.split(TB);
        x.focus(1);
        x.split(LR);
        x.focus(0);
        x.setShare(LR, 99);
        Expect.same("before", Expect.owners(x), "00000b1b3/00000bbbb/00000b222/00000b222");
        Expect.type(x, 2, "abcde");
        Expect.type(x, 0, "12345678~[2;6");
        // The right side can now be one column wide: pane 2, neither closed nor the sibling, is cut.
        x.focus(3);
        x.close();
        Expect.same("after", Expect.host(x), "12345..|./678....|-/.......|a/.......|d");
        Expect.same("cursor of the cut one", Expect.cursor(x, 2), "1,0");
        Expect.same("cursor of the grown one", Expect.cursor(x, 0), "1,3");
        Expect.same("parser of the grown one", Expect.parser(x, 0), "2,2,6,1");
    }
}
