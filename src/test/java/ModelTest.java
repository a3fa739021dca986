/** Long runs of calls on the class and on the model, compared after every call. */
public final class ModelTest {
    private static final int RUNS = 300;
    private static final int CALLS = 400;
    private static final int[] ODD = {Integer.MIN_VALUE, -1, 0, 3, 8, 99, 100, Integer.MAX_VALUE};
    private static final String[] TEXTS = {"~[", "~[%;%H", "~[%;%r", "~[%A", "~[%B", "~[%C", "~[%D",
        "~[J", "~[K", "~[%S", "~[%;%;%", "\n", "\r\n", "\b", "~", "some words", "~[r", "~[%;%?",
        "~[%;1%H", "~[1%;2%H", "twenty-four columns wide", "~[1%C", "~[2;1%r"};

    private static long seed = 20261115;

    public static void main(String[] args) {
        for (int run = 0; run < RUNS && Expect.wrongAnswers() == 0; run++) {
            run(run);
        }
        Expect.finish();
    }

    /** A row of numbers that is the same in every run of the test. */
    private static int pick(int bound) {
        seed = seed * 6364136223846793005L + 1442695040888963407L;
        return (int) ((seed >>> 33) % bound);
    }

    private static int mostly(int bound) {
        return pick(12) == 0 ? ODD[pick(ODD.length)] : pick(bound);
    }

    private static void run(int run) {
        int width = mostly(30);
        int height = mostly(16);
        PaneMultiplexer x = new PaneMultiplexer(width, height);
        Model model = new Model(width, height);
        compare(run + ": new(" + width + ", " + height + ")", x, model);
        // Some runs mostly split, so that many panes are live; others mostly feed.
        int splits = 1 + run % 4;
        for (int i = 0; i < CALLS && Expect.wrongAnswers() == 0; i++) {
            call(run, splits, x, model);
        }
    }

    private static void call(int run, int splits, PaneMultiplexer x, Model model) {
        int kind = pick(11 + splits);
        int a = mostly(8);
        int b = mostly(8);
        switch (kind) {
            case 0 -> tell(run, "close()", x.close(), model.close(), x, model);
            case 1 -> tell(run, "focus(" + a + ")", x.focus(a), model.focus(a), x, model);
            case 2 -> tell(run, "focusNext()", x.focusNext(), model.focusNext(), x, model);
            case 3 -> {
                int orient = 1 + b % 2;
                int percent = mostly(110) - 5;
                tell(run, "setShare(" + orient + ", " + percent + ")", x.setShare(orient, percent),
                    model.setShare(orient, percent), x, model);
            }
            case 4 -> {
                int w = mostly(30);
                int h = mostly(16);
                tell(run, "resizeHost(" + w + ", " + h + ")", x.resizeHost(w, h),
                    model.resizeHost(w, h), x, model);
            }
            case 5 -> feed(run, a, pick(2000) - 1000, x, model);
            case 6, 7, 8, 9, 10 -> {
                String text = TEXTS[pick(TEXTS.length)];
                for (char c : text.toCharArray()) {
                    int octet = c == '~' ? 27 : c == '%' ? '0' + pick(10) : c;
                    feed(run, a, octet, x, model);
                }
            }
            default -> {
                int orient = pick(10) == 0 ? a : 1 + pick(2);
                tell(run, "split(" + orient + ")", x.split(orient), model.split(orient), x, model);
            }
        }
    }

    private static void feed(int run, int id, int b, PaneMultiplexer x, Model model) {
        tell(run, "feed(" + id + ", " + b + ")", x.feed(id, b), model.feed(id, b), x, model);
    }

    private static void tell(int run, String call, boolean got, boolean want, PaneMultiplexer x,
        Model model) {
        Expect.same(run + ": " + call, got, want);
        compare(run + ": " + call, x, model);
    }

    private static void tell(int run, String call, int got, int want, PaneMultiplexer x,
        Model model) {
        Expect.same(run + ": " + call, got, want);
        compare(run + ": " + call, x, model);
    }

    private static void compare(String call, PaneMultiplexer x, Model model) {
        Expect.same("all after " + call, Expect.all(x), model.all());
        Cover.everyCell(call, x);
    }
}
