/** The boundary cases of promise 3, a method for each sentence. */
public final class SplitEdgeTest {
    private static final int LR = PaneMultiplexer.LEFT_RIGHT;
    private static final int TB = PaneMultiplexer.TOP_BOTTOM;

    public static void main(String[] args) {
        wrongOrientation();
        fullTree();
        tooNarrow();
        tooLow();
        refusedChangesNothing();
        shareIsFifty();
        oldPaneIsFirst();
        leastId();
        othersAreFitted();
        newPaneIsFresh();
        focusCountAndAnswer();
        Expect.finish();
    }

    private static void wrongOrientation() {
        Expect.sentence("Promise 3: orient is not LEFT_RIGHT or TOP_BOTTOM: answers -1.");
        PaneMultiplexer x = new PaneMultiplexer(24, 12);
        for (int orient : new int[] {0, 3, 4, -1, -2, 257, 258, Integer.MIN_VALUE,
            Integer.MIN_VALUE + 1, Integer.MAX_VALUE}) {
            Expect.same("split(" + orient + ")", x.split(orient), -1);
            Expect.same("count", x.paneCount(), 1);
        }
    }

    /** Seven panes of which the focused one, the first, is wide and high enough to split. */
    private static PaneMultiplexer seven() {
        PaneMultiplexer x = new PaneMultiplexer(24, 12);
        for (int i = 0; i < 6; i++) {
            Expect.same("split " + i, x.split(i % 2 == 0 ? LR : TB), i + 1);
        }
        x.focus(0);
        return x;
    }

    private static void fullTree() {
        Expect.sentence("Promise 3: MAX_PANES panes are live: answers -1.");
        for (int orient : new int[] {LR, TB}) {
            PaneMultiplexer x = seven();
            Expect.same("the eighth", x.split(orient), 7);
            for (int id = 0; id < 8; id++) {
                x.focus(id);
                Expect.same("a ninth by columns of " + id, x.split(LR), -1);
                Expect.same("a ninth by rows of " + id, x.split(TB), -1);
            }
            x.focus(7);
            x.close();
            Expect.same("one fewer, and again", x.split(orient), 7);
        }
    }

    private static void tooNarrow() {
        Expect.sentence("Promise 3: The focused pane's width (for LEFT_RIGHT) is less than 3:"
            + " answers -1.");
        int[] percents = {1, 29, 43};
        for (int i = 0; i < 3; i++) {
            PaneMultiplexer x = new PaneMultiplexer(8, 4);
            x.split(LR);
            x.setShare(LR, percents[i]);
            x.focus(0);
            Expect.same("width", x.paneRect(0, PaneMultiplexer.RECT_W), i + 1);
            Expect.same("split of width " + (i + 1), x.split(LR), i == 2 ? 2 : -1);
            x.focus(0);
            Expect.same("its height is enough", x.split(TB) > 0, true);
        }
    }

    private static void tooLow() {
        Expect.sentence("Promise 3: The focused pane's height (for TOP_BOTTOM) is less than 3:"
            + " answers -1.");
        int[] percents = {1, 40, 60};
        for (int i = 0; i < 3; i++) {
            PaneMultiplexer x = new PaneMultiplexer(8, 6);
            x.split(TB);
            x.setShare(TB, percents[i]);
            x.focus(0);
            Expect.same("height", x.paneRect(0, PaneMultiplexer.RECT_H), i + 1);
            Expect.same("split of height " + (i + 1), x.split(TB), i == 2 ? 2 : -1);
            x.focus(0);
            Expect.same("its width is enough", x.split(LR) > 0, true);
        }
    }

    /** A pane of one column and one row is focused, with text and a sequence under way. */
    private static PaneMultiplexer tiny() {
        PaneMultiplexer x = new PaneMultiplexer(8, 4);
        x.split(LR);
        x.setShare(LR, 99);
        x.split(TB);
        x.setShare(TB, 99);
        Expect.type(x, 0, "text~[2;3r~[3;3H");
        Expect.type(x, 1, "ab~[4;5");
        Expect.type(x, 2, "~");
        return x;
    }

    private static void refusedChangesNothing() {
        Expect.sentence("Promise 3: A refused call changes nothing at all.");
        Twins.unchanged("too narrow", SplitEdgeTest::tiny, x -> x.split(LR));
        Twins.unchanged("too low", SplitEdgeTest::tiny, x -> x.split(TB));
        for (int orient : new int[] {0, 3, -1, Integer.MIN_VALUE, Integer.MAX_VALUE}) {
            Twins.unchanged("split(" + orient + ")", SplitEdgeTest::seven, x -> x.split(orient));
        }
        Twins.unchanged("a ninth by columns", SplitEdgeTest::eight, x -> x.split(LR));
        Twins.unchanged("a ninth by rows", SplitEdgeTest::eight, x -> x.split(TB));
    }

    private static PaneMultiplexer eight() {
        PaneMultiplexer x = seven();
        x.split(LR);
        Expect.type(x, 7, "seven~[9");
        x.focus(0);
        return x;
    }

    private static void shareIsFifty() {
        Expect.sentence("Promise 3: the focused leaf is replaced by a split of that orientation with"
            + " share 50");
        PaneMultiplexer x = new PaneMultiplexer(24, 12);
        x.split(LR);
        Expect.same("11 of 23 columns", x.paneRect(0, PaneMultiplexer.RECT_W), 11);
        x.setShare(LR, 90);
        x.close();
        x.split(TB);
        Expect.same("5 of 11 rows, whatever share was there before",
            x.paneRect(0, PaneMultiplexer.RECT_H), 5);
        x.setShare(TB, 10);
        x.close();
        x.split(LR);
        Expect.same("11 of 23 columns again", x.paneRect(0, PaneMultiplexer.RECT_W), 11);
        x.split(LR);
        Expect.same("5 of 11 columns inside", x.paneRect(1, PaneMultiplexer.RECT_W), 5);
        Expect.same("an inner split leaves the outer share", x.paneRect(0, PaneMultiplexer.RECT_W), 11);
        PaneMultiplexer odd = new PaneMultiplexer(21, 11);
        odd.split(LR);
        Expect.same("10 of 20 columns", odd.paneRect(0, PaneMultiplexer.RECT_W), 10);
        odd.split(TB);
        Expect.same("5 of 10 rows", odd.paneRect(1, PaneMultiplexer.RECT_H), 5);
        PaneMultiplexer least = new PaneMultiplexer(8, 4);
        least.split(LR);
        least.focus(0);
        least.split(LR);
        Expect.same("three columns", Expect.owners(least).substring(0, 8), "0b2b1111");
    }

    private static void oldPaneIsFirst() {
        Expect.sentence("Promise 3: whose first child is the old pane and whose second child is a new"
            + " pane");
        PaneMultiplexer x = new PaneMultiplexer(24, 12);
        x.split(LR);
        Expect.same("left and right", Expect.rect(x, 0) + " " + Expect.rect(x, 1),
            "0,0,11,12 12,0,12,12");
        x.focus(0);
        x.close();
        Expect.same("id 0 is new now", x.split(TB), 0);
        Expect.same("top and bottom", Expect.rect(x, 1) + " " + Expect.rect(x, 0),
            "0,0,24,5 0,6,24,6");
        Expect.same("leaf order", x.focusNext(), 1);
    }

    private static void leastId() {
        Expect.sentence("Promise 3: a new pane with the least id that is not live");
        PaneMultiplexer x = seven();
        Expect.same("the last free one", x.split(LR), 7);
        for (int id : new int[] {5, 2, 0}) {
            x.focus(id);
            Expect.same("close " + id, x.close(), true);
        }
        for (int id : new int[] {0, 2, 5}) {
            x.focus(widest(x));
            Expect.same("the least free one", x.split(LR), id);
        }
        Expect.same("none is free", x.split(LR), -1);
    }

    private static int widest(PaneMultiplexer x) {
        int found = x.focused();
        for (int id = 0; id < 8; id++) {
            if (x.paneRect(id, PaneMultiplexer.RECT_W) > x.paneRect(found, PaneMultiplexer.RECT_W)) {
                found = id;
            }
        }
        return found;
    }

    private static void othersAreFitted() {
        Expect.sentence("Promise 3: the RESIZE RULE is applied to every pane that was live before"
            + " the call");
        PaneMultiplexer x = new PaneMultiplexer(9, 4);
        Expect.type(x, 0, "123456789abcdefghi~[1;4r~[3;9H~[7;8");
        x.split(LR);
        Expect.same("cut to four columns", Expect.pane(x, 0),
            "0 [0,0,4,4] 2,3 0,3 2,7,8,1 1234/abcd/..../....");
        x.focus(0);
        x.split(TB);
        Expect.same("cut to one row", Expect.pane(x, 0), "0 [0,0,4,1] 0,3 0,0 2,7,8,1 1234");
    }

    private static void newPaneIsFresh() {
        Expect.sentence("Promise 3: the new pane gets the fresh state described under Resize rule");
        PaneMultiplexer x = new PaneMultiplexer(8, 4);
        x.split(LR);
        Expect.type(x, 1, "abcdefghijklmno~[2;3r~[2;2H~[9;9;");
        x.close();
        x.split(TB);
        Expect.same("after an earlier life of the id", Expect.pane(x, 1),
            "1 [0,2,8,2] 0,0 0,1 0,0,0,0 ......../........");
        x.resizeHost(24, 12);
        Expect.same("and grown", Expect.screen(x, 1), ("/" + ".".repeat(24)).repeat(6).substring(1));
    }

    private static void focusCountAndAnswer() {
        Expect.sentence("Promise 3: The new pane becomes focused; paneCount() grows by one; the answer"
            + " is the new pane's id.");
        PaneMultiplexer x = seven();
        Expect.same("answer", x.split(TB), 7);
        Expect.same("focused", x.focused(), 7);
        Expect.same("count", x.paneCount(), 8);
        PaneMultiplexer y = new PaneMultiplexer(8, 4);
        y.split(LR);
        y.focus(0);
        y.close();
        Expect.same("answer 0", y.split(LR), 0);
        Expect.same("focused 0", y.focused(), 0);
        Expect.same("count 2", y.paneCount(), 2);
    }
}
