/** The boundary cases of promise 4, a method for each sentence. */
public final class CloseEdgeTest {
    private static final int LR = PaneMultiplexer.LEFT_RIGHT;
    private static final int TB = PaneMultiplexer.TOP_BOTTOM;

    public static void main(String[] args) {
        onlyPane();
        siblingBecomesRoot();
        siblingTakesTheParentsPlace();
        idStopsBeingLive();
        contentsAreLost();
        firstLeafOfTheSibling();
        othersAreFitted();
        countAndAnswer();
        Expect.finish();
    }

    private static PaneMultiplexer alone() {
        PaneMultiplexer x = new PaneMultiplexer(9, 5);
        Expect.type(x, 0, "words~[2;4r~[3;3H~[5;6");
        return x;
    }

    private static PaneMultiplexer aloneAgain() {
        PaneMultiplexer x = new PaneMultiplexer(9, 5);
        x.split(TB);
        x.split(LR);
        Expect.type(x, 2, "words~[1;2r~");
        x.focus(0);
        x.close();
        x.close();
        return x;
    }

    private static void onlyPane() {
        Expect.sentence("Promise 4: Refused (false) if only one pane is live; nothing changes.");
        Expect.same("a new object", new PaneMultiplexer(8, 4).close(), false);
        PaneMultiplexer x = aloneAgain();
        Expect.same("another pane than 0", x.focused(), 2);
        Expect.same("refused", x.close(), false);
        Expect.same("and again", x.close(), false);
        Expect.same("with two panes", x.split(TB) == 0 && x.close(), true);
        Twins.unchanged("close of pane 0", CloseEdgeTest::alone, PaneMultiplexer::close);
        Twins.unchanged("close of pane 2", CloseEdgeTest::aloneAgain, PaneMultiplexer::close);
    }

    private static void siblingBecomesRoot() {
        Expect.sentence("Promise 4: the sibling subtree takes the parent's place (as root if the"
            + " parent was root)");
        for (int closed = 0; closed < 2; closed++) {
            PaneMultiplexer x = new PaneMultiplexer(9, 5);
            x.split(LR);
            x.focus(closed);
            Expect.same("close " + closed, x.close(), true);
            Expect.same("a leaf as root", Expect.rect(x, 1 - closed), "0,0,9,5");
            Expect.same("no split is left", x.setShare(LR, 50), false);
        }
        PaneMultiplexer y = new PaneMultiplexer(9, 5);
        y.split(LR);
        y.split(TB);
        y.setShare(TB, 99);
        y.focus(0);
        y.close();
        Expect.same("a split as root", Expect.owners(y),
            "111111111/111111111/111111111/bbbbbbbbb/222222222");
        Expect.same("only it is left", y.setShare(TB, 1) && !y.setShare(LR, 50), true);
    }

    private static void siblingTakesTheParentsPlace() {
        Expect.sentence("Promise 4: the pane's leaf and its parent split are removed and the sibling"
            + " subtree takes the parent's place");
        // Pane 0 left; on the right 1 above the pair of 2 and 3.
        int[] closed = {1, 2, 3};
        String[] due = {"00000b22b33/00000b22b33/00000b22b33/00000b22b33/00000b22b33",
            "00000b11111/00000b11111/00000bbbbbb/00000b33333/00000b33333",
            "00000b11111/00000b11111/00000bbbbbb/00000b22222/00000b22222"};
        for (int i = 0; i < closed.length; i++) {
            PaneMultiplexer x = new PaneMultiplexer(11, 5);
            x.split(LR);
            x.split(TB);
            x.split(LR);
            x.focus(closed[i]);
            Expect.same("close " + closed[i], x.close(), true);
            Expect.same("without " + closed[i], Expect.owners(x), due[i]);
        }
        // The same on the first side, where the parent is a first child.
        PaneMultiplexer y = new PaneMultiplexer(11, 5);
        y.split(LR);
        y.focus(0);
        y.split(TB);
        Expect.same("close 2", y.close(), true);
        Expect.same("0 is the first child", Expect.owners(y), "/00000b11111".repeat(5).substring(1));
        Expect.same("leaf order", y.focusNext(), 1);
    }

    private static void idStopsBeingLive() {
        Expect.sentence("Promise 4: The id stops being live");
        PaneMultiplexer x = new PaneMultiplexer(9, 5);
        x.split(LR);
        x.close();
        Expect.same("feed", x.feed(1, 65), false);
        Expect.same("focus", x.focus(1), false);
        Expect.same("rect", Expect.rect(x, 1), "-1,-1,-1,-1");
        Expect.same("state", Expect.cursor(x, 1) + Expect.region(x, 1) + Expect.parser(x, 1),
            "-1,-1-1,-1-1,-1,-1,-1");
        Expect.same("char", x.paneChar(1, 0, 0), 0);
        Expect.same("owner of its old cell", x.hostOwner(0, 8), 0);
    }

    private static void contentsAreLost() {
        Expect.sentence("Promise 4: and its contents are lost");
        PaneMultiplexer x = new PaneMultiplexer(9, 5);
        x.split(LR);
        Expect.type(x, 1, "abcdefghijkl~[2;3r~[2;2H~[7;8;");
        String other = Expect.screen(x, 0);
        x.close();
        Expect.same("the host shows nothing of it", Expect.host(x),
            "/.........".repeat(5).substring(1));
        x.split(LR);
        Expect.same("the id again", Expect.pane(x, 1),
            "1 [5,0,4,5] 0,0 0,4 0,0,0,0 ..../..../..../..../....");
        Expect.same("pane 0", Expect.screen(x, 0), other);
    }

    private static void firstLeafOfTheSibling() {
        Expect.sentence("Promise 4: The first pane in leaf order of the sibling subtree becomes"
            + " focused.");
        PaneMultiplexer leaf = new PaneMultiplexer(24, 12);
        leaf.split(LR);
        leaf.split(TB);
        leaf.close();
        Expect.same("a leaf as sibling, not the tree's first", leaf.focused(), 1);
        PaneMultiplexer deep = new PaneMultiplexer(24, 12);
        deep.split(LR);
        deep.focus(0);
        deep.split(TB);
        deep.split(LR);
        deep.focus(0);
        deep.close();
        Expect.same("2 comes first of 2 and 3", deep.focused(), 2);
        deep.split(TB);
        deep.focus(2);
        deep.split(LR);
        deep.focus(1);
        deep.close();
        Expect.same("the first of a deep subtree, not its least id", deep.focused(), 2);
    }

    private static void othersAreFitted() {
        Expect.sentence("Promise 4: The layout is recomputed and the RESIZE RULE is applied to every"
            + " remaining live pane");
        PaneMultiplexer x = new PaneMultiplexer(9, 5);
        x.split(LR);
        x.split(LR);
        x.focus(0);
        x.setShare(LR, 99);
        Expect.same("before", Expect.owners(x).substring(0, 9), "00000b1b2");
        Expect.type(x, 0, "12345abc~[6;7");
        Expect.type(x, 1, "xyz");
        x.focus(2);
        x.close();
        Expect.same("the other side grows to its share", Expect.host(x),
            "12345..|x/abc....|y/.......|z/.......|./.......|.");
        Expect.same("state", Expect.pane(x, 0).substring(0, 30), "0 [0,0,7,5] 1,3 0,4 2,6,7,1 12");
    }

    private static void countAndAnswer() {
        Expect.sentence("Promise 4: paneCount() shrinks by one; the answer is true");
        PaneMultiplexer x = new PaneMultiplexer(24, 12);
        for (int i = 0; i < 7; i++) {
            x.split(i % 2 == 0 ? LR : TB);
        }
        for (int count = 7; count > 0; count--) {
            Expect.same("close", x.close(), true);
            Expect.same("count", x.paneCount(), count);
        }
        Expect.same("the last", x.close(), false);
        Expect.same("count of the last", x.paneCount(), 1);
    }
}
