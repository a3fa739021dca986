/** The boundary cases of promises 5 and 6, a method for each sentence. */
public final class FocusEdgeTest {
    private static final int LR = PaneMultiplexer.LEFT_RIGHT;
    private static final int TB = PaneMultiplexer.TOP_BOTTOM;

    public static void main(String[] args) {
        notLive();
        refusedChangesNothing();
        focuses();
        nothingElseChanges();
        nextInLeafOrder();
        lastToFirst();
        neverRefused();
        singlePane();
        nextChangesNothingElse();
        Expect.finish();
    }

    /** Panes 3, 0 and 2 in leaf order, 0 focused; 1 was closed. */
    private static PaneMultiplexer sample() {
        PaneMultiplexer x = new PaneMultiplexer(16, 6);
        x.split(LR);
        x.split(TB);
        x.focus(0);
        x.split(TB);
        x.focus(0);
        x.close();
        x.focus(1);
        x.close();
        x.focus(3);
        Expect.same("id 0 again", x.split(LR), 0);
        x.setShare(LR, 20);
        x.focus(2);
        x.setShare(LR, 80);
        x.focus(0);
        Expect.type(x, 0, "~[2;3");
        Expect.type(x, 2, "two~[1;2r~");
        Expect.type(x, 3, "three");
        return x;
    }

    private static void notLive() {
        Expect.sentence("Promise 5: focus(id) is refused (false) if id is not a live pane");
        PaneMultiplexer x = sample();
        for (int id : new int[] {1, 4, 5, 6, 7, 8, 9, 15, 256, Integer.MAX_VALUE, -1, -2, -8,
            Integer.MIN_VALUE}) {
            Expect.same("focus(" + id + ")", x.focus(id), false);
        }
    }

    private static void refusedChangesNothing() {
        Expect.sentence("Promise 5: refused; nothing changes");
        for (int id : new int[] {1, 4, 7, 8, 14, 256, Integer.MAX_VALUE, -1, Integer.MIN_VALUE}) {
            Twins.unchanged("focus(" + id + ")", FocusEdgeTest::sample, x -> x.focus(id));
        }
    }

    private static void focuses() {
        Expect.sentence("Promise 5: Otherwise id becomes focused and the answer is true.");
        PaneMultiplexer x = sample();
        for (int id : new int[] {0, 2, 2, 3, 0}) {
            Expect.same("focus(" + id + ")", x.focus(id), true);
            Expect.same("focused", x.focused(), id);
        }
        PaneMultiplexer y = new PaneMultiplexer(8, 4);
        Expect.same("the only pane", y.focus(0), true);
        Expect.same("stays focused", y.focused(), 0);
        PaneMultiplexer full = eight();
        Expect.same("the least id", full.focus(0) && full.focused() == 0, true);
        Expect.same("the greatest id", full.focus(7) && full.focused() == 7, true);
    }

    private static PaneMultiplexer eight() {
        PaneMultiplexer x = new PaneMultiplexer(24, 12);
        for (int i = 0; i < 7; i++) {
            x.split(i % 2 == 0 ? LR : TB);
        }
        return x;
    }

    private static void nothingElseChanges() {
        Expect.sentence("Promise 5: Nothing else changes: no pane contents, no parser state, no"
            + " rectangle.");
        PaneMultiplexer x = sample();
        for (int id : new int[] {0, 2, 3, 3}) {
            String before = withoutFocus(x);
            x.focus(id);
            Expect.same("focus(" + id + ")", withoutFocus(x), before);
        }
        Twins.unchanged("there and back", FocusEdgeTest::sample, y -> {
            y.focus(2);
            y.focus(3);
            y.focus(0);
        });
        Twins.unchanged("the focused one", FocusEdgeTest::sample, y -> y.focus(0));
    }

    private static String withoutFocus(PaneMultiplexer x) {
        return Expect.all(x).replaceFirst("focused \\d", "");
    }

    private static void nextInLeafOrder() {
        Expect.sentence("Promise 6: makes the pane after the focused one in leaf order focused; It"
            + " answers the newly focused id.");
        PaneMultiplexer x = sample();
        x.focus(3);
        Expect.same("after 3", x.focusNext(), 0);
        Expect.same("focused", x.focused(), 0);
        Expect.same("after 0", x.focusNext(), 2);
        Expect.same("focused", x.focused(), 2);
        PaneMultiplexer y = new PaneMultiplexer(8, 4);
        y.split(LR);
        y.focus(0);
        y.split(TB);
        Expect.same("after 2, on the left", y.focusNext(), 1);
        y.focus(0);
        Expect.same("after 0, above it", y.focusNext(), 2);
    }

    private static void lastToFirst() {
        Expect.sentence("Promise 6: after the last pane in leaf order the first one follows");
        PaneMultiplexer x = sample();
        x.focus(2);
        Expect.same("the first is not 0", x.focusNext(), 3);
        Expect.same("focused", x.focused(), 3);
        PaneMultiplexer right = eight();
        Expect.same("from the deepest leaf", right.focusNext(), 0);
        PaneMultiplexer left = new PaneMultiplexer(24, 12);
        for (int i = 0; i < 7; i++) {
            left.focus(0);
            left.setShare(LR, 99);
            left.setShare(TB, 99);
            Expect.same("split", left.split(i % 2 == 0 ? LR : TB), i + 1);
        }
        left.focus(1);
        Expect.same("to the deepest leaf", left.focusNext(), 0);
    }

    private static void neverRefused() {
        Expect.sentence("Promise 6: It is never refused.");
        PaneMultiplexer x = eight();
        for (int count = 8; count > 0; count--) {
            for (int i = 0; i <= count; i++) {
                int next = x.focusNext();
                Expect.same("a live one", x.paneRect(next, PaneMultiplexer.RECT_W) > 0, true);
                Expect.same("focused", x.focused(), next);
            }
            x.close();
        }
    }

    private static void singlePane() {
        Expect.sentence("Promise 6: With a single live pane, that pane stays focused and its id is"
            + " answered.");
        PaneMultiplexer x = new PaneMultiplexer(8, 4);
        Expect.same("pane 0", x.focusNext(), 0);
        Expect.same("focused", x.focused(), 0);
        x.split(LR);
        x.focus(0);
        x.close();
        Expect.same("pane 1", x.focusNext(), 1);
        Expect.same("again", x.focusNext(), 1);
        Expect.same("focused", x.focused(), 1);
    }

    private static void nextChangesNothingElse() {
        Expect.sentence("Promise 6: Nothing other than the focus changes.");
        PaneMultiplexer x = sample();
        for (int i = 0; i < 4; i++) {
            String before = withoutFocus(x);
            x.focusNext();
            Expect.same("step " + i, withoutFocus(x), before);
        }
        Twins.unchanged("once round", FocusEdgeTest::sample, y -> {
            y.focusNext();
            y.focusNext();
            y.focusNext();
        });
    }
}
