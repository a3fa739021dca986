/** The boundary cases of promise 1, a method for each sentence. */
public final class ConstructionEdgeTest {
    public static void main(String[] args) {
        widthBelow();
        widthAbove();
        heightBelow();
        heightAbove();
        bothAtOnce();
        onePane();
        paneZeroIsFocused();
        noOtherIsLive();
        Expect.finish();
    }

    private static void size(int width, int height, String due) {
        PaneMultiplexer x = new PaneMultiplexer(width, height);
        Expect.same("new(" + width + ", " + height + ")", x.hostSize(PaneMultiplexer.RECT_W) + "x"
            + x.hostSize(PaneMultiplexer.RECT_H), due);
    }

    private static void widthBelow() {
        Expect.sentence("Promise 1: below the least becomes the least (width)");
        for (int width : new int[] {Integer.MIN_VALUE, Integer.MIN_VALUE + 1, -24, -1, 0, 1, 7, 8}) {
            size(width, 6, "8x6");
        }
        size(9, 6, "9x6");
    }

    private static void widthAbove() {
        Expect.sentence("Promise 1: above the greatest becomes the greatest (width)");
        for (int width : new int[] {24, 25, 256, Integer.MAX_VALUE - 1, Integer.MAX_VALUE}) {
            size(width, 6, "24x6");
        }
        size(23, 6, "23x6");
    }

    private static void heightBelow() {
        Expect.sentence("Promise 1: below the least becomes the least (height)");
        for (int height : new int[] {Integer.MIN_VALUE, Integer.MIN_VALUE + 1, -12, -1, 0, 1, 3, 4}) {
            size(10, height, "10x4");
        }
        size(10, 5, "10x5");
    }

    private static void heightAbove() {
        Expect.sentence("Promise 1: above the greatest becomes the greatest (height)");
        for (int height : new int[] {12, 13, 24, 256, Integer.MAX_VALUE - 1, Integer.MAX_VALUE}) {
            size(10, height, "10x12");
        }
        size(10, 11, "10x11");
    }

    private static void bothAtOnce() {
        Expect.sentence("Promise 1: accepts any ints");
        size(Integer.MIN_VALUE, Integer.MIN_VALUE, "8x4");
        size(Integer.MAX_VALUE, Integer.MAX_VALUE, "24x12");
        size(Integer.MIN_VALUE, Integer.MAX_VALUE, "8x12");
        size(Integer.MAX_VALUE, Integer.MIN_VALUE, "24x4");
        size(0, 0, "8x4");
        size(-1, 13, "8x12");
    }

    private static void onePane() {
        Expect.sentence("Promise 1: The tree is one leaf, pane 0, with rectangle (0,0,W,H), all"
            + " blank, cursor (0,0), top = 0, bottom = H-1, mode GROUND, p1 = p2 = 0, k = 0.");
        int[][] sizes = {{8, 4}, {24, 12}, {8, 12}, {24, 4}, {17, 9}};
        for (int[] size : sizes) {
            int w = size[0];
            int h = size[1];
            PaneMultiplexer x = new PaneMultiplexer(w, h);
            Expect.same("pane 0 of " + w + "x" + h, Expect.pane(x, 0), "0 [0,0," + w + "," + h
                + "] 0,0 0," + (h - 1) + " 0,0,0,0 " + ("/" + ".".repeat(w)).repeat(h).substring(1));
            Expect.same("no split is there", x.setShare(PaneMultiplexer.LEFT_RIGHT, 50)
                || x.setShare(PaneMultiplexer.TOP_BOTTOM, 50), false);
        }
    }

    private static void paneZeroIsFocused() {
        Expect.sentence("Promise 1: Pane 0 is focused; paneCount() is 1");
        PaneMultiplexer x = new PaneMultiplexer(Integer.MIN_VALUE, Integer.MAX_VALUE);
        Expect.same("focused", x.focused(), 0);
        Expect.same("count", x.paneCount(), 1);
    }

    private static void noOtherIsLive() {
        Expect.sentence("Promise 1: no other id is live");
        PaneMultiplexer x = new PaneMultiplexer(24, 12);
        for (int id = -2; id < 10; id++) {
            if (id != 0) {
                Expect.same("focus(" + id + ")", x.focus(id), false);
                Expect.same("feed(" + id + ", 65)", x.feed(id, 65), false);
                Expect.same("paneRect of " + id, Expect.rect(x, id), "-1,-1,-1,-1");
                Expect.same("paneState of " + id, Expect.parser(x, id), "-1,-1,-1,-1");
                Expect.same("paneChar of " + id, x.paneChar(id, 0, 0), 0);
            }
        }
    }
}
