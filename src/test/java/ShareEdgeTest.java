/** The boundary cases of promise 7, a method for each sentence. */
public final class ShareEdgeTest {
    private static final int LR = PaneMultiplexer.LEFT_RIGHT;
    private static final int TB = PaneMultiplexer.TOP_BOTTOM;

    public static void main(String[] args) {
        wrongOrientation();
        noAncestor();
        refusedChangesNothing();
        percentIsClamped();
        nearestAncestor();
        panesAreFitted();
        trueWithoutAChange();
        treeAndFocusStay();
        Expect.finish();
    }

    /** Columns (rows (0, 2), 1), pane 2 focused, with shares of 40 and 70. */
    private static PaneMultiplexer sample() {
        PaneMultiplexer x = new PaneMultiplexer(21, 11);
        x.split(LR);
        x.setShare(LR, 40);
        x.focus(0);
        x.split(TB);
        x.setShare(TB, 70);
        Expect.type(x, 0, "zero~[1;3r~[3;3H~[4;5");
        Expect.type(x, 1, "one~");
        return x;
    }

    private static PaneMultiplexer onTheRight() {
        PaneMultiplexer x = sample();
        x.focus(1);
        return x;
    }

    private static void wrongOrientation() {
        Expect.sentence("Promise 7: orient is not LEFT_RIGHT or TOP_BOTTOM: answers false.");
        PaneMultiplexer x = sample();
        for (int orient : new int[] {0, 3, 4, -1, -2, 257, 258, Integer.MIN_VALUE,
            Integer.MIN_VALUE + 1, Integer.MAX_VALUE}) {
            Expect.same("setShare(" + orient + ", 50)", x.setShare(orient, 50), false);
            Expect.same("setShare(" + orient + ", MAX)", x.setShare(orient, Integer.MAX_VALUE), false);
        }
        Expect.same("a leaf is no split", new PaneMultiplexer(8, 4).setShare(0, 50), false);
    }

    private static void noAncestor() {
        Expect.sentence("Promise 7: No split of that orientation is an ancestor of the focused pane's"
            + " leaf: answers false.");
        PaneMultiplexer one = new PaneMultiplexer(24, 12);
        Expect.same("one pane, columns", one.setShare(LR, 30), false);
        Expect.same("one pane, rows", one.setShare(TB, 30), false);
        one.split(LR);
        Expect.same("only columns", one.setShare(TB, 30), false);
        one.close();
        one.split(TB);
        Expect.same("only rows", one.setShare(LR, 30), false);
        one.close();
        Expect.same("the ancestor is gone", one.setShare(TB, 30), false);
        Expect.same("a split of the sibling", onTheRight().setShare(TB, 30), false);
        PaneMultiplexer left = new PaneMultiplexer(24, 12);
        left.split(TB);
        left.split(LR);
        left.focus(0);
        Expect.same("a split of the second sibling", left.setShare(LR, 30), false);
    }

    private static void refusedChangesNothing() {
        Expect.sentence("Promise 7: A refused call changes nothing.");
        for (int orient : new int[] {0, 3, -1, Integer.MIN_VALUE, Integer.MAX_VALUE}) {
            Twins.unchanged("setShare(" + orient + ", 5)", ShareEdgeTest::sample,
                x -> x.setShare(orient, 5));
        }
        Twins.unchanged("rows from pane 1", ShareEdgeTest::onTheRight, x -> x.setShare(TB, 5));
        Twins.unchanged("one pane", () -> new PaneMultiplexer(9, 5), x -> x.setShare(LR, 5));
    }

    private static void percentIsClamped() {
        Expect.sentence("Promise 7: percent (any int) is clamped into [1, 99]");
        // 23 times 186737758 runs over the largest int and comes out near 1150, the share of 50.
        int[] low = {Integer.MIN_VALUE, Integer.MIN_VALUE + 1, -186737658, -100, -1, 0, 1};
        int[] high = {99, 100, 101, 1000, 186737758, Integer.MAX_VALUE - 1, Integer.MAX_VALUE};
        for (int percent : low) {
            PaneMultiplexer x = new PaneMultiplexer(24, 12);
            x.split(LR);
            Expect.same("setShare(LR, " + percent + ")", x.setShare(LR, percent), true);
            Expect.same("acts as 1", Expect.rect(x, 0), "0,0,1,12");
            x.split(TB);
            Expect.same("setShare(TB, " + percent + ")", x.setShare(TB, percent), true);
            Expect.same("acts as 1 on rows", Expect.rect(x, 1), "2,0,22,1");
        }
        for (int percent : high) {
            PaneMultiplexer x = new PaneMultiplexer(24, 12);
            x.split(LR);
            Expect.same("setShare(LR, " + percent + ")", x.setShare(LR, percent), true);
            Expect.same("acts as 99", Expect.rect(x, 0), "0,0,22,12");
            x.split(TB);
            Expect.same("setShare(TB, " + percent + ")", x.setShare(TB, percent), true);
            Expect.same("acts as 99 on rows", Expect.rect(x, 1), "23,0,1,10");
        }
    }

    private static void nearestAncestor() {
        Expect.sentence("Promise 7: becomes the share of the nearest (lowest) such ancestor");
        PaneMultiplexer x = new PaneMultiplexer(21, 11);
        x.split(LR);
        x.split(LR);
        x.split(TB);
        x.split(TB);
        x.setShare(LR, 1);
        Expect.same("the lower columns", Expect.rect(x, 0) + " " + Expect.rect(x, 1),
            "0,0,10,11 11,0,1,11");
        x.setShare(TB, 99);
        Expect.same("the lower rows", Expect.rect(x, 2) + " " + Expect.rect(x, 3),
            "13,0,8,5 13,6,8,3");
        x.focus(2);
        x.setShare(TB, 1);
        Expect.same("the upper rows from pane 2", Expect.rect(x, 2), "13,0,8,1");
        x.focus(0);
        x.setShare(LR, 1);
        Expect.same("the upper columns from pane 0", Expect.rect(x, 0) + " " + Expect.rect(x, 1),
            "0,0,1,11 2,0,1,11");
    }

    private static void panesAreFitted() {
        Expect.sentence("Promise 7: The layout is recomputed and the RESIZE RULE is applied to every"
            + " live pane.");
        PaneMultiplexer x = new PaneMultiplexer(9, 4);
        x.split(LR);
        x.split(TB);
        x.focus(0);
        Expect.type(x, 0, "abcdefgh~[1;4r~[2;4H~[6;7");
        Expect.type(x, 1, "12");
        Expect.type(x, 2, "3456");
        x.setShare(LR, 1);
        Expect.same("the first child is cut", Expect.pane(x, 0),
            "0 [0,0,1,4] 1,0 0,3 2,6,7,1 a/e/./.");
        Expect.same("the others grow", Expect.host(x), "a|12...../e|-------/.|3456.../.|.......");
        x.setShare(LR, 99);
        Expect.same("the others are cut", Expect.host(x), "a......|1/e......|-/.......|3/.......|.");
        Expect.same("cursors", Expect.cursor(x, 1) + " " + Expect.cursor(x, 2), "0,0 1,0");
    }

    private static void trueWithoutAChange() {
        Expect.sentence("Promise 7: The answer is true, even if no rectangle changes.");
        PaneMultiplexer x = sample();
        String before = Expect.all(x);
        Expect.same("the same share", x.setShare(TB, 70), true);
        Expect.same("another share of the same rows", x.setShare(TB, 71), true);
        Expect.same("nothing to see", Expect.all(x), before);
        PaneMultiplexer tight = new PaneMultiplexer(8, 5);
        tight.split(TB);
        tight.setShare(TB, 1);
        tight.split(TB);
        before = Expect.all(tight);
        Expect.same("no room to move, low", tight.setShare(TB, 1), true);
        Expect.same("no room to move, high", tight.setShare(TB, 99), true);
        Expect.same("one row each", Expect.all(tight), before);
        tight.resizeHost(8, 12);
        Expect.same("yet the share is taken", Expect.rect(tight, 1), "0,2,8,8");
    }

    private static void treeAndFocusStay() {
        Expect.sentence("Promise 7: The tree shape, the set of live panes and the focus do not"
            + " change.");
        PaneMultiplexer x = sample();
        x.setShare(LR, 99);
        x.setShare(TB, 1);
        Expect.same("count", x.paneCount(), 3);
        Expect.same("focus", x.focused(), 2);
        Expect.same("order", x.focusNext() + " " + x.focusNext() + " " + x.focusNext(), "1 0 2");
        x.setShare(LR, 40);
        x.setShare(TB, 70);
        Expect.same("rectangles after there and back", Expect.owners(x), Expect.owners(sample()));
    }
}
