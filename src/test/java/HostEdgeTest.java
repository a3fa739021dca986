/** The boundary cases of promise 8, a method for each sentence. */
public final class HostEdgeTest {
    private static final int LR = PaneMultiplexer.LEFT_RIGHT;
    private static final int TB = PaneMultiplexer.TOP_BOTTOM;

    public static void main(String[] args) {
        clampsAsTheConstructor();
        tooNarrow();
        tooLow();
        refusedChangesNothing();
        clampedSizeIsCompared();
        taken();
        panesAreFitted();
        treeSharesAndFocusStay();
        Expect.finish();
    }

    private static String size(PaneMultiplexer x) {
        return x.hostSize(PaneMultiplexer.RECT_W) + "x" + x.hostSize(PaneMultiplexer.RECT_H);
    }

    private static void clampsAsTheConstructor() {
        Expect.sentence("Promise 8: clamps width and height exactly as the constructor does");
        int[] asked = {Integer.MIN_VALUE, Integer.MIN_VALUE + 1, -1, 0, 3, 4, 5, 7, 8, 9, 11, 12, 13,
            23, 24, 25, Integer.MAX_VALUE - 1, Integer.MAX_VALUE};
        for (int width : asked) {
            for (int height : asked) {
                PaneMultiplexer x = new PaneMultiplexer(16, 8);
                Expect.same("resizeHost(" + width + ", " + height + ")", x.resizeHost(width, height),
                    true);
                Expect.same("size", size(x), size(new PaneMultiplexer(width, height)));
            }
        }
        PaneMultiplexer x = new PaneMultiplexer(16, 8);
        x.resizeHost(7, 3);
        Expect.same("below", size(x), "8x4");
        x.resizeHost(25, 13);
        Expect.same("above", size(x), "24x12");
    }

    /** Five panes beside each other and pane 0 split in three rows: 9 columns, 5 rows needed. */
    private static PaneMultiplexer crowded() {
        PaneMultiplexer x = new PaneMultiplexer(24, 12);
        x.split(LR);
        x.split(LR);
        x.split(LR);
        x.focus(0);
        x.split(LR);
        x.focus(0);
        x.split(TB);
        x.split(TB);
        x.setShare(TB, 80);
        Expect.type(x, 0, "zero~[1;2r~[2;3H~[4;5");
        Expect.type(x, 3, "three~");
        return x;
    }

    private static void tooNarrow() {
        Expect.sentence("Promise 8: Refused (false) if the clamped width < minW(root)");
        PaneMultiplexer x = crowded();
        Expect.same("8 columns", x.resizeHost(8, 12), false);
        Expect.same("8 columns, higher than can be", x.resizeHost(8, Integer.MAX_VALUE), false);
        Expect.same("9 columns", x.resizeHost(9, 12), true);
        Expect.same("one column each", Expect.owners(x).substring(0, 9), "0b4b1b2b3");
    }

    private static void tooLow() {
        Expect.sentence("Promise 8: Refused (false) if the clamped height < minH(root)");
        PaneMultiplexer x = crowded();
        Expect.same("4 rows", x.resizeHost(24, 4), false);
        Expect.same("4 rows, wider than can be", x.resizeHost(Integer.MAX_VALUE, 4), false);
        Expect.same("5 rows", x.resizeHost(24, 5), true);
        Expect.same("one row each", "" + x.hostOwner(0, 0) + x.hostOwner(2, 0) + x.hostOwner(4, 0),
            "056");
        Expect.same("neither", crowded().resizeHost(8, 4), false);
        Expect.same("both just enough", crowded().resizeHost(9, 5), true);
    }

    private static void refusedChangesNothing() {
        Expect.sentence("Promise 8: Refused; nothing changes");
        int[][] sizes = {{8, 12}, {8, 6}, {24, 4}, {10, 4}, {8, 4},
            {Integer.MIN_VALUE, Integer.MAX_VALUE}, {Integer.MAX_VALUE, Integer.MIN_VALUE}};
        for (int[] size : sizes) {
            Twins.unchanged("resizeHost(" + size[0] + ", " + size[1] + ")", HostEdgeTest::crowded,
                x -> Expect.same("refused", x.resizeHost(size[0], size[1]), false));
        }
    }

    private static void clampedSizeIsCompared() {
        Expect.sentence("Promise 8: the clamped width, the clamped height (not the asked ones)");
        PaneMultiplexer x = new PaneMultiplexer(24, 12);
        x.split(LR);
        x.split(LR);
        x.split(LR);
        x.focus(0);
        x.split(TB);
        // 7 columns and 3 rows are needed; what is asked is less, the least host is not.
        Expect.same("asked below what is needed", x.resizeHost(0, 0), true);
        Expect.same("the least host", size(x), "8x4");
        Expect.same("asked far below", x.resizeHost(Integer.MIN_VALUE, Integer.MIN_VALUE), true);
        PaneMultiplexer y = crowded();
        Expect.same("clamped and still too small", y.resizeHost(-1, -1), false);
    }

    private static void taken() {
        Expect.sentence("Promise 8: Otherwise W and H become the clamped values, and the answer is"
            + " true");
        PaneMultiplexer x = crowded();
        Expect.same("9 by 5", x.resizeHost(9, 5) + " " + size(x), "true 9x5");
        Expect.same("one way", x.resizeHost(9, 12) + " " + size(x), "true 9x12");
        Expect.same("the other way", x.resizeHost(24, 5) + " " + size(x), "true 24x5");
        Expect.same("the same size", x.resizeHost(24, 5) + " " + size(x), "true 24x5");
        Expect.same("greatest", x.resizeHost(25, 13) + " " + size(x), "true 24x12");
    }

    private static void panesAreFitted() {
        Expect.sentence("Promise 8: the layout is recomputed, the RESIZE RULE is applied to every"
            + " live pane");
        PaneMultiplexer x = new PaneMultiplexer(10, 6);
        x.split(LR);
        x.split(TB);
        Expect.type(x, 0, "abcdefgh~[3;6r~[6;4H~[6;7");
        Expect.type(x, 1, "12345~[2;5H");
        Expect.type(x, 2, "67890ABCDE~");
        Expect.same("before", Expect.host(x),
            "abcd|12345/efgh|...../....|-----/....|67890/....|ABCDE/....|.....");
        x.resizeHost(8, 4);
        Expect.same("pane 0", Expect.pane(x, 0), "0 [0,0,3,4] 3,2 0,3 2,6,7,1 abc/efg/.../...");
        Expect.same("pane 1", Expect.pane(x, 1), "1 [4,0,4,1] 0,3 0,0 0,2,5,1 1234");
        Expect.same("pane 2", Expect.pane(x, 2), "2 [4,2,4,2] 1,0 0,1 1,0,0,0 6789/ABCD");
        x.resizeHost(10, 6);
        Expect.same("and back", Expect.host(x),
            "abc.|1234./efg.|...../....|-----/....|6789./....|ABCD./....|.....");
    }

    private static void treeSharesAndFocusStay() {
        Expect.sentence("Promise 8: The tree, the shares, the set of live panes and the focus do not"
            + " change.");
        PaneMultiplexer x = crowded();
        x.focus(5);
        String owners = Expect.owners(x);
        x.resizeHost(9, 5);
        Expect.same("focus", x.focused(), 5);
        Expect.same("count", x.paneCount(), 7);
        Expect.same("order", "" + x.focusNext() + x.focusNext() + x.focusNext() + x.focusNext()
            + x.focusNext() + x.focusNext() + x.focusNext(), "6412305");
        x.resizeHost(24, 12);
        Expect.same("rectangles after there and back", Expect.owners(x), owners);
    }
}
