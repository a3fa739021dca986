/** Promises 5 and 6. */
public final class FocusTest {
    private static final int LR = PaneMultiplexer.LEFT_RIGHT;
    private static final int TB = PaneMultiplexer.TOP_BOTTOM;

    public static void main(String[] args) {
        focusIsRefused();
        focusChangesNothingElse();
        nextOfOne();
        nextInLeafOrder();
        nextInDeepTrees();
        Expect.finish();
    }

    private static void focusIsRefused() {
        PaneMultiplexer x = new PaneMultiplexer(16, 6);
        x.split(LR);
        x.split(TB);
        x.focus(1);
        x.close();
        String before = Expect.all(x);
        int[] dead = {1, 3, 4, 5, 6, 7, 8, 9, -1, -2, Integer.MIN_VALUE, Integer.MAX_VALUE};
        for (int id : dead) {
            Expect.same("focus(" + id + ")", x.focus(id), false);
        }
        Expect.same("nothing changed", Expect.all(x), before);
    }

    private static void focusChangesNothingElse() {
        PaneMultiplexer x = new PaneMultiplexer(16, 6);
        x.split(LR);
        x.split(TB);
        Expect.type(x, 0, "zero~[1;2");
        Expect.type(x, 1, "one~");
        Expect.type(x, 2, "two\n");
        for (int id : new int[] {0, 0, 2, 1, 1}) {
            String before = Expect.all(x).replaceFirst("focused \\d", "");
            Expect.same("focus(" + id + ")", x.focus(id), true);
            Expect.same("focused", x.focused(), id);
            Expect.same("else", Expect.all(x).replaceFirst("focused \\d", ""), before);
        }
    }

    private static void nextOfOne() {
        PaneMultiplexer x = new PaneMultiplexer(8, 4);
        String before = Expect.all(x);
        Expect.same("next of one", x.focusNext(), 0);
        Expect.same("nothing changed", Expect.all(x), before);
        x.split(LR);
        x.focus(0);
        x.close();
        Expect.same("next of pane 1 alone", x.focusNext(), 1);
        Expect.same("focused", x.focused(), 1);
    }

    private static void nextInLeafOrder() {
        PaneMultiplexer x = new PaneMultiplexer(24, 12);
        x.split(LR);
        x.focus(0);
        x.split(TB);
        x.focus(0);
        x.split(LR);
        x.focus(1);
        x.split(TB);
        Expect.type(x, 3, "three~[7");
        round(x, 0, 3, 2, 1, 4);
        x.focus(2);
        x.close();
        Expect.same("focus after close", x.focused(), 0);
        round(x, 0, 3, 1, 4);
    }

    private static void nextInDeepTrees() {
        PaneMultiplexer right = new PaneMultiplexer(24, 12);
        PaneMultiplexer left = new PaneMultiplexer(24, 12);
        for (int i = 0; i < 7; i++) {
            Expect.same("split the second", right.split(i % 2 == 0 ? LR : TB), i + 1);
            left.focus(0);
            Expect.same("split the first", left.split(i % 2 == 0 ? LR : TB), i + 1);
            left.setShare(i % 2 == 0 ? LR : TB, 99);
        }
        round(right, 0, 1, 2, 3, 4, 5, 6, 7);
        round(left, 0, 7, 6, 5, 4, 3, 2, 1);
    }

    private static void round(PaneMultiplexer x, int... order) {
        x.focus(order[order.length - 1]);
        for (int turn = 0; turn < 2; turn++) {
            for (int id : order) {
                String before = Expect.all(x).replaceFirst("focused \\d", "");
                Expect.same("next", x.focusNext(), id);
                Expect.same("focused", x.focused(), id);
                Expect.same("else", Expect.all(x).replaceFirst("focused \\d", ""), before);
            }
        }
    }
}
