/** Promise 3 and the layout that it rests on. */
public final class SplitTest {
    private static final int LR = PaneMultiplexer.LEFT_RIGHT;
    private static final int TB = PaneMultiplexer.TOP_BOTTOM;

    public static void main(String[] args) {
        wrongOrientations();
        leftRight();
        topBottom();
        contentsAreFitted();
        leastIdIsTaken();
        widthLimit();
        heightLimit();
        paneLimit();
        leastSizesPushTheBorder();
        newPaneIsFresh();
        Expect.finish();
    }

    private static void wrongOrientations() {
        PaneMultiplexer x = new PaneMultiplexer(12, 6);
        Expect.type(x, 0, "abc~[4");
        x.split(LR);
        String before = Expect.all(x);
        int[] wrong = {0, 3, 4, -1, -2, 257, 258, Integer.MIN_VALUE, Integer.MAX_VALUE};
        for (int orient : wrong) {
            Expect.same("split(" + orient + ")", x.split(orient), -1);
        }
        Expect.same("after refused splits", Expect.all(x), before);
    }

    private static void leftRight() {
        int[] lefts = {3, 4, 4, 5, 5, 6, 6, 7, 7, 8, 8, 9, 9, 10, 10, 11, 11};
        for (int width = 8; width <= 24; width++) {
            PaneMultiplexer x = new PaneMultiplexer(width, 4);
            int left = lefts[width - 8];
            Expect.same("split at width " + width, x.split(LR), 1);
            Expect.same("left of " + width, Expect.rect(x, 0), "0,0," + left + ",4");
            Expect.same("right of " + width, Expect.rect(x, 1),
                (left + 1) + ",0," + (width - left - 1) + ",4");
            Expect.same("focused", x.focused(), 1);
            Expect.same("count", x.paneCount(), 2);
            for (int row = 0; row < 4; row++) {
                Expect.same("border char", x.hostChar(row, left), '|');
                Expect.same("border owner", x.hostOwner(row, left), PaneMultiplexer.OWNER_BORDER);
            }
        }
    }

    private static void topBottom() {
        int[] tops = {1, 2, 2, 3, 3, 4, 4, 5, 5};
        for (int height = 4; height <= 12; height++) {
            PaneMultiplexer x = new PaneMultiplexer(9, height);
            int top = tops[height - 4];
            Expect.same("split at height " + height, x.split(TB), 1);
            Expect.same("top of " + height, Expect.rect(x, 0), "0,0,9," + top);
            Expect.same("bottom of " + height, Expect.rect(x, 1),
                "0," + (top + 1) + ",9," + (height - top - 1));
            for (int col = 0; col < 9; col++) {
                Expect.same("border char", x.hostChar(top, col), '-');
                Expect.same("border owner", x.hostOwner(top, col), PaneMultiplexer.OWNER_BORDER);
            }
        }
    }

    private static void contentsAreFitted() {
        PaneMultiplexer x = new PaneMultiplexer(8, 4);
        Expect.type(x, 0, "abcdefghijklmnop~[2;4r~[2;7H~[7;8");
        Expect.same("split", x.split(LR), 1);
        Expect.same("kept columns", Expect.screen(x, 0), "abc/ijk/.../...");
        Expect.same("cursor", Expect.cursor(x, 0), "1,2");
        Expect.same("region is kept", Expect.region(x, 0), "1,3");
        Expect.same("parser is kept", Expect.parser(x, 0), "2,7,8,1");
        x.focus(0);
        Expect.same("second split", x.split(TB), 2);
        Expect.same("kept rows", Expect.screen(x, 0), "abc");
        Expect.same("cursor in one row", Expect.cursor(x, 0), "0,2");
        Expect.same("region is reset", Expect.region(x, 0), "0,0");
        Expect.same("parser is kept again", Expect.parser(x, 0), "2,7,8,1");
        Expect.same("host", Expect.host(x), "abc|..../---|..../...|..../...|....");
        Expect.same("owners", Expect.owners(x), "000b1111/bbbb1111/222b1111/222b1111");
    }

    private static void leastIdIsTaken() {
        PaneMultiplexer x = new PaneMultiplexer(24, 12);
        Expect.same("first", x.split(LR), 1);
        Expect.same("second", x.split(TB), 2);
        Expect.same("third", x.split(LR), 3);
        x.focus(0);
        Expect.same("close 0", x.close(), true);
        x.focus(2);
        Expect.same("close 2", x.close(), true);
        Expect.same("0 again", x.split(LR), 0);
        Expect.same("2 again", x.split(LR), 2);
        Expect.same("then 4", x.split(TB), 4);
        Expect.same("count", x.paneCount(), 5);
    }

    private static void widthLimit() {
        PaneMultiplexer x = new PaneMultiplexer(8, 4);
        Expect.same("split 8", x.split(LR), 1);
        Expect.same("split 4", x.split(LR), 2);
        Expect.same("four columns give 1 and 2", Expect.rect(x, 1) + " " + Expect.rect(x, 2),
            "4,0,1,4 6,0,2,4");
        String before = Expect.all(x);
        Expect.same("two columns", x.split(LR), -1);
        Expect.same("nothing changed", Expect.all(x), before);
        x.focus(1);
        Expect.same("one column", x.split(LR), -1);
        x.focus(0);
        Expect.same("three columns", x.split(LR), 3);
        Expect.same("all", Expect.owners(x).substring(0, 8), "0b3b1b22");
        Expect.same("the other way is free", x.split(TB), 4);
    }

    private static void heightLimit() {
        PaneMultiplexer x = new PaneMultiplexer(8, 4);
        Expect.same("split 4", x.split(TB), 1);
        String before = Expect.all(x);
        Expect.same("two rows", x.split(TB), -1);
        Expect.same("nothing changed", Expect.all(x), before);
        x.focus(0);
        Expect.same("one row", x.split(TB), -1);
        x.resizeHost(8, 6);
        x.focus(1);
        Expect.same("three rows", x.split(TB), 2);
        Expect.same("rects", Expect.rect(x, 0) + " " + Expect.rect(x, 1) + " " + Expect.rect(x, 2),
            "0,0,8,2 0,3,8,1 0,5,8,1");
        Expect.same("the other way is free", x.split(LR), 3);
    }

    private static void paneLimit() {
        PaneMultiplexer x = new PaneMultiplexer(24, 12);
        int[] orients = {LR, TB, LR, TB, LR, TB, LR};
        for (int i = 0; i < 7; i++) {
            x.focus(i / 2);
            Expect.same("split " + i, x.split(orients[i]), i + 1);
        }
        Expect.same("count", x.paneCount(), 8);
        for (int id = 0; id < 8; id++) {
            x.focus(id);
            String before = Expect.all(x);
            Expect.same("ninth pane by columns", x.split(LR), -1);
            Expect.same("ninth pane by rows", x.split(TB), -1);
            Expect.same("nothing changed", Expect.all(x), before);
        }
        Expect.same("close one", x.close(), true);
        Expect.same("and split again", x.split(LR), 7);
    }

    private static void leastSizesPushTheBorder() {
        PaneMultiplexer x = new PaneMultiplexer(9, 4);
        x.split(LR);
        x.split(LR);
        Expect.same("row", Expect.owners(x).substring(0, 9), "0000b1b22");
        x.focus(0);
        x.setShare(LR, 99);
        Expect.same("second side keeps 3", Expect.owners(x).substring(0, 9), "00000b1b2");
        Expect.same("split first", x.split(LR), 3);
        Expect.same("share 50 of 5", Expect.owners(x).substring(0, 9), "00b33b1b2");
    }

    private static void newPaneIsFresh() {
        PaneMultiplexer x = new PaneMultiplexer(12, 8);
        x.split(TB);
        Expect.type(x, 1, "abcdefghijklmnopqrstuvwxyz~[2;3r~[2;2H~[5;6");
        x.close();
        Expect.same("the id again", x.split(TB), 1);
        Expect.same("fresh", Expect.pane(x, 1),
            "1 [0,4,12,4] 0,0 0,3 0,0,0,0 ............/............/............/............");
    }
}
