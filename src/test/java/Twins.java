import java.util.ArrayList;
import java.util.List;
import java.util.function.Consumer;
import java.util.function.Function;
import java.util.function.Supplier;

/**
 * Tells whether a call changed anything, also what cannot be asked for (the tree's shape, the
 * shares): of two objects made alike one gets the call, and then both get the same further calls.
 */
final class Twins {
    private static final int LR = PaneMultiplexer.LEFT_RIGHT;
    private static final int TB = PaneMultiplexer.TOP_BOTTOM;

    private final String what;
    private final PaneMultiplexer called;
    private final PaneMultiplexer left;
    private final Function<PaneMultiplexer, String> look;
    private boolean alike = true;

    private Twins(String what, Supplier<PaneMultiplexer> make,
        Function<PaneMultiplexer, String> look) {
        this.what = what;
        this.called = make.get();
        this.left = make.get();
        this.look = look;
    }

    static void unchanged(String what, Supplier<PaneMultiplexer> make,
        Consumer<PaneMultiplexer> call) {
        Twins twins = new Twins(what, make, Expect::all);
        call.accept(twins.called);
        twins.compare();
    }

    /**
     * For a call that is itself a question: each pair is looked at with one other question alone, so
     * that the twin that is left never gets the call.
     */
    static void unchangedByAsking(Question asked, Supplier<PaneMultiplexer> make,
        Consumer<PaneMultiplexer> call) {
        for (Question other : Question.values()) {
            if (other != asked) {
                Twins twins = new Twins(asked + " seen by " + other, make, other::answers);
                call.accept(twins.called);
                twins.compare();
            }
        }
    }

    /** The questions, each with the answers to all its arguments that matter. */
    enum Question {
        FOCUSED, COUNT, RECT, STATE, PANE_CHAR, OWNER, HOST_CHAR, SIZE;

        String answers(PaneMultiplexer x) {
            List<Integer> found = new ArrayList<>();
            switch (this) {
                case FOCUSED -> found.add(x.focused());
                case COUNT -> found.add(x.paneCount());
                case SIZE -> found.addAll(List.of(x.hostSize(2), x.hostSize(3)));
                case RECT -> eachPair(8, 4, (id, part) -> found.add(x.paneRect(id, part)));
                case STATE -> eachPair(8, 8, (id, part) -> found.add(x.paneState(id, part)));
                case PANE_CHAR -> eachPair(96, 24,
                    (line, col) -> found.add((int) x.paneChar(line / 12, line % 12, col)));
                case OWNER -> eachPair(12, 24, (row, col) -> found.add(x.hostOwner(row, col)));
                case HOST_CHAR -> eachPair(12, 24, (row, col) -> found.add((int) x.hostChar(row, col)));
            }
            return found.toString();
        }

        private interface Pair {
            void accept(int a, int b);
        }

        private static void eachPair(int endA, int endB, Pair pair) {
            for (int a = 0; a < endA; a++) {
                for (int b = 0; b < endB; b++) {
                    pair.accept(a, b);
                }
            }
        }
    }

    private void compare() {
        both("nothing more", x -> { });
        // Other sizes show the shares, before a focusNext that spoils them could act on both.
        for (int width = 8; width <= 24; width += 4) {
            int w = width;
            both("width " + width, x -> x.resizeHost(w, 11));
            both("height " + width / 2, x -> x.resizeHost(w, w / 2));
        }
        for (int i = 0; i < PaneMultiplexer.MAX_PANES; i++) {
            both("focusNext " + i, PaneMultiplexer::focusNext);
        }
        for (int id = 0; id < PaneMultiplexer.MAX_PANES; id++) {
            int fed = id;
            both("feeding " + id, x -> feed(x, fed, "5;2Hx\u001b[2;1Hyz\n"));
        }
        for (int i = 0; i < PaneMultiplexer.MAX_PANES; i++) {
            both("columns " + i, x -> x.setShare(LR, 30));
            both("rows " + i, x -> x.setShare(TB, 70));
            both("next " + i, PaneMultiplexer::focusNext);
        }
        both("split columns", x -> x.split(LR));
        both("split rows", x -> x.split(TB));
        for (int i = 0; i < PaneMultiplexer.MAX_PANES; i++) {
            both("close " + i, PaneMultiplexer::close);
        }
    }

    private static void feed(PaneMultiplexer x, int id, String text) {
        for (char c : text.toCharArray()) {
            x.feed(id, c);
        }
    }

    /** Once they differ, further differences tell nothing new. */
    private void both(String step, Consumer<PaneMultiplexer> call) {
        if (alike) {
            call.accept(called);
            call.accept(left);
            String got = look.apply(called);
            String want = look.apply(left);
            alike = got.equals(want);
            Expect.same(what + ", then " + step, got, want);
        }
    }
}
