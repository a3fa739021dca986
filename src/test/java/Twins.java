import java.util.function.Consumer;
import java.util.function.Supplier;

/**
 * Tells whether a call changed anything, also what cannot be asked for (the tree's shape, the
 * shares): of two objects made alike one gets the call, and then both get the same further calls.
 */
final class Twins {
    private static final int LR = PaneMultiplexer.LEFT_RIGHT;
    private static final int TB = PaneMultiplexer.TOP_BOTTOM;

    private final String what;
    private final PaneMultiplexer called;
    private final PaneMultiplexer left;
    private boolean alike = true;

    private Twins(String what, PaneMultiplexer called, PaneMultiplexer left) {
        this.what = what;
        this.called = called;
        this.left = left;
    }

    static void unchanged(String what, Supplier<PaneMultiplexer> make,
        Consumer<PaneMultiplexer> call) {
        Twins twins = new Twins(what, make.get(), make.get());
        call.accept(twins.called);
        twins.compare();
    }

    private void compare() {
        both("nothing more", x -> { });
        for (int i = 0; i < PaneMultiplexer.MAX_PANES; i++) {
            both("focusNext " + i, PaneMultiplexer::focusNext);
        }
        for (int id = 0; id < PaneMultiplexer.MAX_PANES; id++) {
            int fed = id;
            both("feeding " + id, x -> feed(x, fed, "5;2Hx\u001b[2;1Hyz\n"));
        }
        for (int width = 8; width <= 24; width += 4) {
            int w = width;
            both("width " + width, x -> x.resizeHost(w, 11));
            both("height " + width / 2, x -> x.resizeHost(w, w / 2));
        }
        for (int i = 0; i < PaneMultiplexer.MAX_PANES; i++) {
            both("columns " + i, x -> x.setShare(LR, 30));
            both("rows " + i, x -> x.setShare(TB, 70));
            both("next " + i, PaneMultiplexer::focusNext);
        }
        both("split columns", x -> x.split(LR));
        both("split rows", x -> x.split(TB));
        for (int i = 0; i < PaneMultiplexer.MAX_PANES; i++) {
            both("close " + i, PaneMultiplexer::close);
        }
    }

    private static void feed(PaneMultiplexer x, int id, String text) {
        for (char c : text.toCharArray()) {
            x.feed(id, c);
        }
    }

    /** Once they differ, further differences tell nothing new. */
    private void both(String step, Consumer<PaneMultiplexer> call) {
        if (alike) {
            call.accept(called);
            call.accept(left);
            String got = Expect.all(called);
            String want = Expect.all(left);
            alike = got.equals(want);
            Expect.same(what + ", then " + step, got, want);
        }
    }
}
