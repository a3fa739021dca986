/** The boundary cases of the section "Resize rule", a method for each sentence. */
public final class ResizeRuleEdgeTest {
    private static final int LR = PaneMultiplexer.LEFT_RIGHT;
    private static final int TB = PaneMultiplexer.TOP_BOTTOM;

    public static void main(String[] args) {
        cellsAtTheEdgeAreKept();
        otherCellsAreBlank();
        leftoversDoNotComeBack();
        cursorRowAtTheEdge();
        cursorColAtTheEdge();
        regionBelowTheNewEnd();
        regionOtherwiseKept();
        parserInEveryMode();
        sameSizeKeepsEverything();
        newPaneIsFresh();
        Expect.finish();
    }

    /** A pane of 10 by 6 with a different char in every cell, by rows a, k, u, E, O, Y. */
    private static PaneMultiplexer full() {
        PaneMultiplexer x = new PaneMultiplexer(10, 6);
        Expect.type(x, 0, "abcdefghijklmnopqrstuvwxyzABCDEFGHIJKLMNOPQRSTUVWXYZ0123456");
        return x;
    }

    private static void cellsAtTheEdgeAreKept() {
        Expect.sentence("Resize rule: cell (r,c) keeps its char if r < min(oh,nh) and"
            + " c < min(ow,nw)");
        PaneMultiplexer x = full();
        x.resizeHost(9, 6);
        Expect.same("one column fewer", Expect.screen(x, 0),
            "abcdefghi/klmnopqrs/uvwxyzABC/EFGHIJKLM/OPQRSTUVW/YZ0123456");
        x.resizeHost(9, 5);
        Expect.same("one row fewer", Expect.screen(x, 0),
            "abcdefghi/klmnopqrs/uvwxyzABC/EFGHIJKLM/OPQRSTUVW");
        x.resizeHost(8, 12);
        Expect.same("narrower and higher", Expect.screen(x, 0),
            "abcdefgh/klmnopqr/uvwxyzAB/EFGHIJKL/OPQRSTUV" + "/........".repeat(7));
        x.resizeHost(12, 4);
        Expect.same("wider and lower", Expect.screen(x, 0),
            "abcdefgh..../klmnopqr..../uvwxyzAB..../EFGHIJKL....");
    }

    private static void otherCellsAreBlank() {
        Expect.sentence("Resize rule: all other cells of the new nw-by-nh screen are blank");
        PaneMultiplexer x = full();
        x.resizeHost(24, 12);
        String rest = ".".repeat(14);
        Expect.same("greatest", Expect.screen(x, 0), "abcdefghij" + rest + "/klmnopqrst" + rest
            + "/uvwxyzABCD" + rest + "/EFGHIJKLMN" + rest + "/OPQRSTUVWX" + rest
            + "/YZ0123456." + rest + ("/" + ".".repeat(24)).repeat(6));
        x.resizeHost(8, 12);
        x.resizeHost(9, 12);
        Expect.same("column 7 is kept", x.paneChar(0, 0, 7), 'h');
        Expect.same("column 8 is lost", x.paneChar(0, 0, 8), ' ');
        x.resizeHost(9, 4);
        x.resizeHost(9, 5);
        Expect.same("row 3 is kept", x.paneChar(0, 3, 0), 'E');
        Expect.same("row 4 is lost", x.paneChar(0, 4, 0), ' ');
    }

    private static void leftoversDoNotComeBack() {
        Expect.sentence("Resize rule: all other cells are blank, also after a scroll in between");
        PaneMultiplexer x = full();
        x.resizeHost(8, 4);
        Expect.type(x, 0, "~[S~[4;1Hlast~[1;8H");
        x.resizeHost(10, 6);
        Expect.same("cut, scrolled, grown", Expect.screen(x, 0),
            "klmnopqr../uvwxyzAB../EFGHIJKL../last....../........../..........");
        PaneMultiplexer y = new PaneMultiplexer(9, 4);
        Expect.type(y, 0, "123456789");
        y.split(LR);
        Expect.same("close", y.close(), true);
        Expect.same("cut by a split, grown by a close", Expect.screen(y, 0),
            "1234...../........./........./.........");
    }

    private static void cursorRowAtTheEdge() {
        Expect.sentence("Resize rule: cursor row = min(row, nh-1)");
        int[] lines = {4, 5, 6, 7, 12};
        int[] due = {3, 4, 4, 4, 4};
        for (int i = 0; i < lines.length; i++) {
            PaneMultiplexer x = new PaneMultiplexer(8, 12);
            Expect.type(x, 0, "~[" + lines[i] + ";3H");
            x.resizeHost(8, 5);
            Expect.same("from line " + lines[i], Expect.cursor(x, 0), due[i] + ",2");
            x.resizeHost(8, 12);
            Expect.same("grown again", Expect.cursor(x, 0), due[i] + ",2");
        }
    }

    private static void cursorColAtTheEdge() {
        Expect.sentence("Resize rule: col = min(col, nw-1)");
        int[] columns = {8, 9, 10, 11, 24};
        int[] due = {7, 8, 8, 8, 8};
        for (int i = 0; i < columns.length; i++) {
            PaneMultiplexer x = new PaneMultiplexer(24, 4);
            Expect.type(x, 0, "~[2;" + columns[i] + "H");
            x.resizeHost(9, 4);
            Expect.same("from column " + columns[i], Expect.cursor(x, 0), "1," + due[i]);
            x.resizeHost(24, 4);
            Expect.same("grown again", Expect.cursor(x, 0), "1," + due[i]);
        }
        PaneMultiplexer narrow = new PaneMultiplexer(8, 4);
        Expect.type(narrow, 0, "~[2;3H");
        narrow.split(LR);
        narrow.setShare(LR, 1);
        Expect.same("one column", Expect.cursor(narrow, 0), "1,0");
    }

    private static void regionBelowTheNewEnd() {
        Expect.sentence("Resize rule: if bottom > nh-1 then top = 0 and bottom = nh-1");
        PaneMultiplexer x = new PaneMultiplexer(8, 12);
        Expect.type(x, 0, "~[3;7r");
        x.resizeHost(8, 6);
        Expect.same("bottom 6 in 6 rows", Expect.region(x, 0), "0,5");
        PaneMultiplexer y = new PaneMultiplexer(8, 12);
        x.resizeHost(8, 4);
        Expect.same("full region", Expect.region(x, 0), "0,3");
        Expect.type(y, 0, "~[11;12r");
        y.resizeHost(8, 4);
        Expect.same("a region that lay below the new end", Expect.region(y, 0), "0,3");
        y.split(TB);
        Expect.same("one row", Expect.region(y, 0), "0,0");
    }

    private static void regionOtherwiseKept() {
        Expect.sentence("Resize rule: otherwise the scroll region is kept");
        PaneMultiplexer x = new PaneMultiplexer(8, 12);
        Expect.type(x, 0, "~[3;7r");
        x.resizeHost(8, 8);
        Expect.same("bottom 6 in 8 rows", Expect.region(x, 0), "2,6");
        x.resizeHost(8, 7);
        Expect.same("bottom 6 in 7 rows", Expect.region(x, 0), "2,6");
        x.resizeHost(24, 12);
        Expect.same("larger", Expect.region(x, 0), "2,6");
        PaneMultiplexer y = new PaneMultiplexer(8, 4);
        y.resizeHost(8, 5);
        Expect.same("a full region does not grow", Expect.region(y, 0), "0,3");
        Expect.type(y, 0, "a~[4;1H\nb");
        Expect.same("it scrolls where it ended", Expect.screen(y, 0),
            "......../......../......../b......./........");
    }

    private static void parserInEveryMode() {
        Expect.sentence("Resize rule: parser mode and parameters (p1, p2, k) are kept");
        String[] texts = {"~[7;8;mx", "~[7;8;m~", "~[12;34", "~[99;99;"};
        String[] due = {"0,7,8,2", "1,7,8,2", "2,12,34,1", "2,99,99,2"};
        for (int i = 0; i < texts.length; i++) {
            PaneMultiplexer x = new PaneMultiplexer(24, 12);
            Expect.type(x, 0, texts[i]);
            x.resizeHost(8, 4);
            Expect.same("smaller " + i, Expect.parser(x, 0), due[i]);
            x.split(TB);
            Expect.same("split " + i, Expect.parser(x, 0), due[i]);
            x.close();
            Expect.same("closed " + i, Expect.parser(x, 0), due[i]);
        }
        PaneMultiplexer x = new PaneMultiplexer(24, 12);
        Expect.type(x, 0, "~[3;1");
        x.resizeHost(8, 4);
        Expect.type(x, 0, "2H");
        Expect.same("a sequence across a resize", Expect.cursor(x, 0), "2,7");
    }

    private static void sameSizeKeepsEverything() {
        Expect.sentence("Resize rule: A pane whose size does not change therefore keeps everything.");
        PaneMultiplexer x = new PaneMultiplexer(8, 4);
        x.split(LR);
        Expect.type(x, 1, "abcdefghijkl~[2;3r~[2;4H~[5;6");
        Expect.same("before", Expect.pane(x, 1),
            "1 [4,0,4,4] 1,3 1,2 2,5,6,1 abcd/efgh/ijkl/....");
        x.resizeHost(9, 4);
        Expect.same("moved", Expect.pane(x, 1), "1 [5,0,4,4] 1,3 1,2 2,5,6,1 abcd/efgh/ijkl/....");
        x.focus(0);
        x.split(TB);
        Expect.same("beside a split", Expect.pane(x, 1),
            "1 [5,0,4,4] 1,3 1,2 2,5,6,1 abcd/efgh/ijkl/....");
        x.close();
        Expect.same("beside a close", Expect.pane(x, 1),
            "1 [5,0,4,4] 1,3 1,2 2,5,6,1 abcd/efgh/ijkl/....");
    }

    private static void newPaneIsFresh() {
        Expect.sentence("Resize rule: A pane made by split starts all blank, cursor (0,0), top = 0,"
            + " bottom = nh-1 (its height after the layout), mode GROUND, p1 = p2 = 0, k = 0.");
        PaneMultiplexer x = new PaneMultiplexer(8, 4);
        Expect.type(x, 0, "abcdefghijkl~[2;3r~[2;4H~[5;6;");
        x.split(TB);
        Expect.same("two of four rows", Expect.pane(x, 1), "1 [0,2,8,2] 0,0 0,1 0,0,0,0 ......../........");
        Expect.type(x, 1, "mnopqrstuv~[2;2H~[9;9;");
        x.close();
        x.split(LR);
        Expect.same("the id again", Expect.pane(x, 1),
            "1 [4,0,4,4] 0,0 0,3 0,0,0,0 ..../..../..../....");
        Expect.type(x, 1, "mnopqrstuv~[2;3r~[2;3H~[9;9;");
        x.close();
        x.split(LR);
        Expect.same("once more", Expect.pane(x, 1),
            "1 [4,0,4,4] 0,0 0,3 0,0,0,0 ..../..../..../....");
        Expect.type(x, 1, "x~");
        x.focus(0);
        x.close();
        x.resizeHost(8, 6);
        Expect.same("id 0 again", x.split(TB), 0);
        Expect.same("three of six rows", Expect.pane(x, 0),
            "0 [0,3,8,3] 0,0 0,2 0,0,0,0 ......../......../........");
        x.split(TB);
        Expect.same("one of three rows", Expect.pane(x, 2), "2 [0,5,8,1] 0,0 0,0 0,0,0,0 ........");
    }
}
