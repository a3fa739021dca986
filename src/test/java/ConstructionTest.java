/** Promise 1. */
public final class ConstructionTest {
    public static void main(String[] args) {
        int[] asked = {Integer.MIN_VALUE, -1, 0, 3, 4, 5, 7, 8, 9, 11, 12, 13, 23, 24, 25, 100,
            Integer.MAX_VALUE};
        for (int width : asked) {
            for (int height : asked) {
                fresh(width, height, Math.max(8, Math.min(24, width)),
                    Math.max(4, Math.min(12, height)));
            }
        }
        objectsAreApart();
        Expect.finish();
    }

    private static void fresh(int width, int height, int w, int h) {
        String made = "new(" + width + ", " + height + "): ";
        PaneMultiplexer x = new PaneMultiplexer(width, height);
        Expect.same(made + "W", x.hostSize(PaneMultiplexer.RECT_W), w);
        Expect.same(made + "H", x.hostSize(PaneMultiplexer.RECT_H), h);
        Expect.same(made + "focused", x.focused(), 0);
        Expect.same(made + "count", x.paneCount(), 1);
        Expect.same(made + "rect", Expect.rect(x, 0), "0,0," + w + "," + h);
        Expect.same(made + "cursor", Expect.cursor(x, 0), "0,0");
        Expect.same(made + "region", Expect.region(x, 0), "0," + (h - 1));
        Expect.same(made + "parser", Expect.parser(x, 0), "0,0,0,0");
        String blank = ("/" + ".".repeat(w)).repeat(h).substring(1);
        Expect.same(made + "screen", Expect.screen(x, 0), blank);
        Expect.same(made + "host", Expect.host(x), blank);
        for (int id = 1; id < PaneMultiplexer.MAX_PANES; id++) {
            Expect.same(made + "rect of " + id, Expect.rect(x, id), "-1,-1,-1,-1");
            Expect.same(made + "focus " + id, x.focus(id), false);
        }
    }

    private static void objectsAreApart() {
        PaneMultiplexer x = new PaneMultiplexer(10, 5);
        PaneMultiplexer y = new PaneMultiplexer(10, 5);
        String before = Expect.all(y);
        Expect.type(x, 0, "ab~[3");
        x.split(PaneMultiplexer.LEFT_RIGHT);
        Expect.same("the other object", Expect.all(y), before);
    }
}
