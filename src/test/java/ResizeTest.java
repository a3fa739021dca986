/** Promise 8 and the resize rule. */
public final class ResizeTest {
    private static final int LR = PaneMultiplexer.LEFT_RIGHT;
    private static final int TB = PaneMultiplexer.TOP_BOTTOM;

    public static void main(String[] args) {
        sizesAreClamped();
        tooNarrow();
        tooLow();
        leastSizesOfMixedTrees();
        widestRowCounts();
        cellsAreKept();
        greatestScreenIsCutAndBlanked();
        cursorIsClamped();
        regionIsKeptOrReset();
        keptRegionOfOneRow();
        parserIsKept();
        sameSizeKeepsEverything();
        treeIsKept();
        Expect.finish();
    }

    private static void sizesAreClamped() {
        int[] asked = {Integer.MIN_VALUE, -1, 0, 3, 4, 5, 7, 8, 9, 12, 13, 23, 24, 25,
            Integer.MAX_VALUE};
        PaneMultiplexer x = new PaneMultiplexer(10, 6);
        for (int width : asked) {
            for (int height : asked) {
                String call = "resizeHost(" + width + ", " + height + ")";
                int w = Math.max(8, Math.min(24, width));
                int h = Math.max(4, Math.min(12, height));
                Expect.same(call, x.resizeHost(width, height), true);
                Expect.same(call + ": W", x.hostSize(PaneMultiplexer.RECT_W), w);
                Expect.same(call + ": H", x.hostSize(PaneMultiplexer.RECT_H), h);
                Expect.same(call + ": rect", Expect.rect(x, 0), "0,0," + w + "," + h);
            }
        }
    }

    private static void tooNarrow() {
        PaneMultiplexer x = new PaneMultiplexer(24, 6);
        int[] focus = {0, 0, 1, 0, 1};
        for (int i = 0; i < 5; i++) {
            x.focus(focus[i]);
            Expect.same("split " + i, x.split(LR), i + 1);
        }
        Expect.type(x, 0, "ab~[3");
        String before = Expect.all(x);
        for (int width : new int[] {Integer.MIN_VALUE, 0, 8, 9, 10}) {
            Expect.same("too narrow, " + width, x.resizeHost(width, 12), false);
        }
        Expect.same("nothing changed", Expect.all(x), before);
        Expect.same("wide enough", x.resizeHost(11, 12), true);
        Expect.same("one column each", Expect.owners(x).substring(0, 11), "0b4b2b1b5b3");
    }

    private static void tooLow() {
        PaneMultiplexer x = new PaneMultiplexer(8, 12);
        int[] focus = {0, 0, 1};
        for (int i = 0; i < 3; i++) {
            x.focus(focus[i]);
            Expect.same("split " + i, x.split(TB), i + 1);
        }
        String before = Expect.all(x);
        for (int height : new int[] {Integer.MIN_VALUE, 0, 4, 5, 6}) {
            Expect.same("too low, " + height, x.resizeHost(24, height), false);
        }
        Expect.same("nothing changed", Expect.all(x), before);
        Expect.same("high enough", x.resizeHost(8, 7), true);
        Expect.same("one row each", x.hostOwner(0, 0) + " " + x.hostOwner(2, 0) + " "
            + x.hostOwner(4, 0) + " " + x.hostOwner(6, 0), "0 2 1 3");
    }

    private static void leastSizesOfMixedTrees() {
        PaneMultiplexer x = new PaneMultiplexer(24, 12);
        x.split(LR);
        x.split(TB);
        x.split(LR);
        x.split(LR);
        x.focus(1);
        x.split(LR);
        x.focus(0);
        x.split(TB);
        x.split(TB);
        Expect.same("count", x.paneCount(), 8);
        Expect.same("5 rows are needed", x.resizeHost(8, 4), false);
        Expect.same("7 columns and 5 rows are enough", x.resizeHost(8, 5), true);
        x.focus(6);
        x.close();
        Expect.same("after a close 4 rows are enough", x.resizeHost(8, 4), true);
    }

    private static void widestRowCounts() {
        for (int wide = 0; wide < 2; wide++) {
            PaneMultiplexer x = new PaneMultiplexer(24, 4);
            x.split(TB);
            int[] focus = {wide, wide, 2, 2, 3};
            for (int i = 0; i < 5; i++) {
                x.focus(focus[i]);
                Expect.same("split " + i, x.split(LR), i + 2);
            }
            Expect.same("10 columns for 6 panes in a row", x.resizeHost(10, 4), false);
            Expect.same("11 columns", x.resizeHost(11, 4), true);
        }
    }

    private static void greatestScreenIsCutAndBlanked() {
        PaneMultiplexer x = new PaneMultiplexer(24, 12);
        Expect.type(x, 0, "x".repeat(24 * 12 - 1));
        Expect.same("lower", x.resizeHost(24, 4), true);
        Expect.same("as high as before", x.resizeHost(24, 12), true);
        Expect.same("rows are blank", Expect.screen(x, 0),
            ("x".repeat(24) + "/").repeat(4) + (".".repeat(24) + "/").repeat(7) + ".".repeat(24));
        Expect.same("narrower", x.resizeHost(8, 12), true);
        Expect.same("as wide as before", x.resizeHost(24, 12), true);
        Expect.same("columns are blank", Expect.screen(x, 0),
            ("x".repeat(8) + ".".repeat(16) + "/").repeat(4)
                + (".".repeat(24) + "/").repeat(7) + ".".repeat(24));
    }

    private static void cellsAreKept() {
        PaneMultiplexer x = new PaneMultiplexer(10, 5);
        Expect.type(x, 0, "abcdefghijklmnopqrstuvwxyzABCDEFGHIJKLMNOPQRST");
        Expect.same("smaller", x.resizeHost(8, 4), true);
        Expect.same("kept", Expect.screen(x, 0), "abcdefgh/klmnopqr/uvwxyzAB/EFGHIJKL");
        Expect.same("larger", x.resizeHost(11, 6), true);
        Expect.same("rest is blank", Expect.screen(x, 0),
            "abcdefgh.../klmnopqr.../uvwxyzAB.../EFGHIJKL.../.........../...........");
        Expect.same("wider and lower", x.resizeHost(12, 4), true);
        Expect.same("narrower and higher", x.resizeHost(8, 5), true);
        Expect.same("both ways", Expect.screen(x, 0), "abcdefgh/klmnopqr/uvwxyzAB/EFGHIJKL/........");
    }

    private static void cursorIsClamped() {
        PaneMultiplexer x = new PaneMultiplexer(12, 6);
        Expect.type(x, 0, "~[6;12H");
        x.resizeHost(9, 6);
        Expect.same("column alone", Expect.cursor(x, 0), "5,8");
        x.resizeHost(9, 5);
        Expect.same("row alone", Expect.cursor(x, 0), "4,8");
        x.resizeHost(12, 6);
        Expect.same("larger", Expect.cursor(x, 0), "4,8");
        Expect.type(x, 0, "~[4;8H");
        x.resizeHost(8, 4);
        Expect.same("just inside", Expect.cursor(x, 0), "3,7");
    }

    private static void regionIsKeptOrReset() {
        PaneMultiplexer x = new PaneMultiplexer(8, 8);
        Expect.type(x, 0, "~[3;6r");
        x.resizeHost(8, 6);
        Expect.same("bottom is the last row", Expect.region(x, 0), "2,5");
        x.resizeHost(8, 12);
        Expect.same("larger", Expect.region(x, 0), "2,5");
        x.resizeHost(8, 5);
        Expect.same("bottom is out", Expect.region(x, 0), "0,4");
        x.resizeHost(8, 12);
        Expect.same("full region is kept, not stretched", Expect.region(x, 0), "0,4");
    }

    private static void keptRegionOfOneRow() {
        PaneMultiplexer x = new PaneMultiplexer(8, 4);
        x.split(TB);
        x.resizeHost(8, 12);
        Expect.same("region of one row in five", Expect.region(x, 0), "0,0");
        Expect.type(x, 0, "ab\n");
        Expect.same("scrolls its one row", Expect.cursor(x, 0), "0,2");
        Expect.same("blank", Expect.screen(x, 0), ("/........").repeat(5).substring(1));
        Expect.type(x, 0, "~[2;1Hc\nd~[S");
        Expect.same("rows below it stay", Expect.screen(x, 0),
            "......../c......./.d....../......../........");
    }

    private static void parserIsKept() {
        String[] texts = {"", "~", "~[", "~[12", "~[12;34", "~[12;34;", "~[1;2m"};
        String[] states = {"0,0,0,0", "1,0,0,0", "2,0,0,0", "2,12,0,0", "2,12,34,1", "2,12,34,2",
            "0,1,2,1"};
        for (int i = 0; i < texts.length; i++) {
            PaneMultiplexer x = new PaneMultiplexer(12, 6);
            Expect.type(x, 0, texts[i]);
            x.resizeHost(8, 4);
            Expect.same("smaller after " + texts[i], Expect.parser(x, 0), states[i]);
            x.resizeHost(24, 12);
            Expect.same("larger after " + texts[i], Expect.parser(x, 0), states[i]);
        }
    }

    private static void sameSizeKeepsEverything() {
        PaneMultiplexer x = new PaneMultiplexer(12, 6);
        x.split(LR);
        x.split(TB);
        for (int id = 0; id < 3; id++) {
            Expect.type(x, id, "some text~[1;2r~[2;2H~[5;" + id);
        }
        String before = Expect.all(x);
        Expect.same("the same size", x.resizeHost(12, 6), true);
        Expect.same("nothing changed", Expect.all(x), before);
    }

    private static void treeIsKept() {
        PaneMultiplexer x = new PaneMultiplexer(21, 11);
        x.split(LR);
        x.setShare(LR, 30);
        x.split(TB);
        x.setShare(TB, 20);
        x.focus(0);
        String before = Expect.owners(x);
        Expect.same("smaller", x.resizeHost(8, 4), true);
        Expect.same("owners", Expect.owners(x), "00b11111/00bbbbbb/00b22222/00b22222");
        Expect.same("focus", x.focused(), 0);
        Expect.same("count", x.paneCount(), 3);
        Expect.same("back", x.resizeHost(21, 11), true);
        Expect.same("as before", Expect.owners(x), before);
    }
}
