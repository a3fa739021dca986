/** The boundary cases of promise 2, a method for each sentence; the parser has its own tests. */
public final class FeedEdgeTest {
    private static final int LR = PaneMultiplexer.LEFT_RIGHT;
    private static final int TB = PaneMultiplexer.TOP_BOTTOM;

    public static void main(String[] args) {
        focusedOrNot();
        notLive();
        refusedChangesNothing();
        anyInt();
        othersStay();
        Expect.finish();
    }

    /** Panes 0, 2 and 3 live, 1 closed; 3 is focused. */
    private static PaneMultiplexer sample() {
        PaneMultiplexer x = new PaneMultiplexer(16, 8);
        x.split(LR);
        x.split(TB);
        x.split(LR);
        x.focus(1);
        x.close();
        x.focus(3);
        Expect.type(x, 0, "zero~[1;2r~[2;2H~[3;4");
        Expect.type(x, 2, "two~");
        return x;
    }

    private static void focusedOrNot() {
        Expect.sentence("Promise 2: pane id, which may be any live pane, focused or not");
        PaneMultiplexer x = sample();
        for (int id : new int[] {0, 2, 3}) {
            Expect.type(x, id, "m~[J~[Hm");
            Expect.same("pane " + id, x.paneChar(id, 0, 0), 'm');
        }
        PaneMultiplexer full = new PaneMultiplexer(24, 12);
        for (int i = 0; i < 7; i++) {
            full.split(i % 2 == 0 ? LR : TB);
        }
        full.focus(3);
        Expect.same("the least id", full.feed(0, 'a'), true);
        Expect.same("the greatest id", full.feed(7, 27), true);
        Expect.same("what the least shows", full.paneChar(0, 0, 0), 'a');
        Expect.same("mode of the greatest", Expect.parser(full, 7), "1,0,0,0");
    }

    private static void notLive() {
        Expect.sentence("Promise 2: Refused (false) if id is not a live pane (including any negative"
            + " id or id >= MAX_PANES)");
        PaneMultiplexer x = sample();
        for (int id : new int[] {1, 4, 5, 6, 7, 8, 9, 15, 256, Integer.MAX_VALUE, -1, -2, -8, -256,
            Integer.MIN_VALUE}) {
            for (int b : new int[] {65, 10, 27, 0, -1}) {
                Expect.same("feed(" + id + ", " + b + ")", x.feed(id, b), false);
            }
        }
    }

    private static void refusedChangesNothing() {
        Expect.sentence("Promise 2: Refused; nothing changes");
        for (int id : new int[] {1, 4, 7, 8, 15, 256, Integer.MAX_VALUE, -1, Integer.MIN_VALUE}) {
            Twins.unchanged("feed(" + id + ", ..)", FeedEdgeTest::sample, x -> {
                for (int b = 0; b < 256; b++) {
                    x.feed(id, b);
                }
            });
        }
        // What was fed to a pane that isn't live doesn't wait there for the id to live again.
        PaneMultiplexer x = sample();
        x.feed(1, 'a');
        x.feed(1, 27);
        Expect.same("the id again", x.split(TB), 1);
        Expect.same("fresh", Expect.parser(x, 1) + " " + x.paneChar(1, 0, 0), "0,0,0,0  ");
    }

    private static void anyInt() {
        Expect.sentence("Promise 2: Any int b is accepted; only its low eight bits count (for example"
            + " -1 acts as 255).");
        for (int b : new int[] {65, 256 + 65, 65 - 256, Integer.MIN_VALUE + 65, 0x7fffff41}) {
            PaneMultiplexer x = new PaneMultiplexer(8, 4);
            Expect.same("feed(0, " + b + ")", x.feed(0, b), true);
            Expect.same("acts as 65", x.paneChar(0, 0, 0), 'A');
        }
        for (int b : new int[] {-1, 255, 256, 511, -256, 193, -63, Integer.MIN_VALUE,
            Integer.MAX_VALUE}) {
            PaneMultiplexer x = new PaneMultiplexer(8, 4);
            String before = Expect.all(x);
            Expect.same("feed(0, " + b + ")", x.feed(0, b), true);
            Expect.same("has no effect", Expect.all(x), before);
            Expect.type(x, 0, "~");
            Expect.same("feed(0, " + b + ") after ESC", x.feed(0, b), true);
            Expect.same("ends the escape", Expect.parser(x, 0), "0,0,0,0");
        }
    }

    private static void othersStay() {
        Expect.sentence("Promise 2: No other pane changes, the layout and the focus do not change,"
            + " and no host cell outside pane id's rectangle changes.");
        PaneMultiplexer x = new PaneMultiplexer(8, 5);
        x.split(LR);
        x.split(TB);
        x.focus(0);
        x.split(TB);
        x.focus(2);
        for (int id = 0; id < 4; id++) {
            Expect.type(x, id, (id + "").repeat(3) + "~[2;9H");
        }
        // Wraps, scrolls and erases at every edge of one pane, with all its neighbours filled.
        String text = "abcdefghijklmnopqrstuvwxyz\n\n\r\b\b~[99;99Hz~[99S~[9;9H~[K~[J~[1;2r\n\n~[3;4";
        for (int id = 0; id < 4; id++) {
            String[] before = outside(x, id);
            Expect.type(x, id, text);
            String[] after = outside(x, id);
            for (int i = 0; i < before.length; i++) {
                Expect.same("outside of pane " + id, after[i], before[i]);
            }
        }
    }

    private static String[] outside(PaneMultiplexer x, int id) {
        StringBuilder cells = new StringBuilder();
        for (int cell = 0; cell < 40; cell++) {
            boolean own = x.hostOwner(cell / 8, cell % 8) == id;
            cells.append(own ? '?' : x.hostChar(cell / 8, cell % 8));
        }
        StringBuilder others = new StringBuilder("focused " + x.focused());
        for (int other = 0; other < 4; other++) {
            others.append(' ').append(other == id ? Expect.rect(x, id) : Expect.pane(x, other));
        }
        return new String[] {cells.toString(), others.toString(), Expect.owners(x)};
    }
}
