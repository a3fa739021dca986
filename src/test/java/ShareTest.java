/** Promise 7 and the layout of shares. */
public final class ShareTest {
    private static final int LR = PaneMultiplexer.LEFT_RIGHT;
    private static final int TB = PaneMultiplexer.TOP_BOTTOM;

    public static void main(String[] args) {
        refusals();
        everyPercent();
        percentIsClamped();
        nearestAncestor();
        fromEitherSide();
        leastSizes();
        panesAreFitted();
        sameRectanglesAnswerTrue();
        shareOutlivesResizes();
        Expect.finish();
    }

    private static void refusals() {
        PaneMultiplexer x = new PaneMultiplexer(12, 6);
        String before = Expect.all(x);
        Expect.same("no split at all, columns", x.setShare(LR, 30), false);
        Expect.same("no split at all, rows", x.setShare(TB, 30), false);
        Expect.same("nothing changed", Expect.all(x), before);
        x.split(LR);
        x.focus(0);
        x.split(TB);
        x.focus(1);
        before = Expect.all(x);
        for (int orient : new int[] {0, 3, -1, 258, Integer.MIN_VALUE, Integer.MAX_VALUE}) {
            Expect.same("setShare(" + orient + ", 30)", x.setShare(orient, 30), false);
        }
        Expect.same("a split that is no ancestor", x.setShare(TB, 30), false);
        Expect.same("nothing changed again", Expect.all(x), before);
    }

    private static void everyPercent() {
        for (int percent = 1; percent <= 99; percent++) {
            PaneMultiplexer x = new PaneMultiplexer(24, 12);
            x.split(LR);
            Expect.same("setShare(LR, " + percent + ")", x.setShare(LR, percent), true);
            int left = Math.min(22, Math.max(1, 23 * percent / 100));
            Expect.same("left at " + percent, Expect.rect(x, 0), "0,0," + left + ",12");
            Expect.same("right at " + percent, Expect.rect(x, 1),
                (left + 1) + ",0," + (23 - left) + ",12");
            x.split(TB);
            Expect.same("setShare(TB, " + percent + ")", x.setShare(TB, percent), true);
            int top = Math.min(10, Math.max(1, 11 * percent / 100));
            Expect.same("top at " + percent, x.paneRect(1, PaneMultiplexer.RECT_H), top);
            Expect.same("bottom at " + percent, x.paneRect(2, PaneMultiplexer.RECT_H), 11 - top);
            Expect.same("bottom's y at " + percent, x.paneRect(2, PaneMultiplexer.RECT_Y), top + 1);
        }
    }

    private static void percentIsClamped() {
        for (int percent : new int[] {Integer.MIN_VALUE, -50, -1, 0, 1}) {
            PaneMultiplexer x = new PaneMultiplexer(24, 12);
            x.split(LR);
            Expect.same("setShare(LR, " + percent + ")", x.setShare(LR, percent), true);
            Expect.same("least left", Expect.rect(x, 0), "0,0,1,12");
        }
        for (int percent : new int[] {Integer.MAX_VALUE, 1000, 100, 99}) {
            PaneMultiplexer x = new PaneMultiplexer(24, 12);
            x.split(LR);
            Expect.same("setShare(LR, " + percent + ")", x.setShare(LR, percent), true);
            Expect.same("greatest left", Expect.rect(x, 0), "0,0,22,12");
        }
    }

    private static void nearestAncestor() {
        PaneMultiplexer x = new PaneMultiplexer(21, 11);
        x.split(LR);
        x.split(TB);
        x.split(LR);
        Expect.same("inner columns", x.setShare(LR, 20), true);
        Expect.same("outer split stays", Expect.rect(x, 0), "0,0,10,11");
        Expect.same("inner split moves", Expect.rect(x, 2) + " " + Expect.rect(x, 3),
            "11,6,1,5 13,6,8,5");
        Expect.same("rows above it", x.setShare(TB, 90), true);
        Expect.same("upper pane", Expect.rect(x, 1), "11,0,10,9");
        x.focus(1);
        Expect.same("outer columns from pane 1", x.setShare(LR, 75), true);
        Expect.same("outer split moves", Expect.rect(x, 0), "0,0,15,11");
        Expect.same("inner split follows", Expect.rect(x, 2) + " " + Expect.rect(x, 3),
            "16,10,1,1 18,10,3,1");
        Expect.same("focus", x.focused(), 1);
        Expect.same("count", x.paneCount(), 4);
    }

    private static void fromEitherSide() {
        PaneMultiplexer x = new PaneMultiplexer(21, 11);
        x.split(LR);
        x.focus(0);
        Expect.same("from the first child", x.setShare(LR, 30), true);
        Expect.same("first", Expect.rect(x, 0), "0,0,6,11");
        x.focus(1);
        Expect.same("from the second child", x.setShare(LR, 70), true);
        Expect.same("share is the first child's", Expect.rect(x, 0), "0,0,14,11");
    }

    private static void leastSizes() {
        PaneMultiplexer x = new PaneMultiplexer(8, 5);
        x.split(LR);
        x.split(LR);
        x.focus(0);
        Expect.same("push right", x.setShare(LR, 99), true);
        Expect.same("right side keeps 3", Expect.owners(x).substring(0, 8), "0000b1b2");
        x.split(LR);
        Expect.same("four", Expect.owners(x).substring(0, 8), "0b33b1b2");
        x.focus(1);
        x.split(TB);
        x.focus(0);
        x.split(TB);
        Expect.same("rows", Expect.owners(x),
            "0b33b1b2/0b33b1b2/bb33bbb2/5b33b4b2/5b33b4b2");
        x.setShare(TB, 1);
        Expect.same("least row", Expect.owners(x),
            "0b33b1b2/bb33b1b2/5b33bbb2/5b33b4b2/5b33b4b2");
        x.focus(1);
        x.setShare(TB, 99);
        Expect.same("greatest row", Expect.owners(x),
            "0b33b1b2/bb33b1b2/5b33b1b2/5b33bbb2/5b33b4b2");
    }

    private static void panesAreFitted() {
        PaneMultiplexer x = new PaneMultiplexer(9, 4);
        x.split(LR);
        Expect.type(x, 0, "abcdefgh");
        Expect.type(x, 1, "ABCDEFGH~[8;9");
        Expect.same("smaller first", x.setShare(LR, 25), true);
        Expect.same("cut", Expect.host(x), "ab|ABCD../ef|EFGH../..|....../..|......");
        Expect.same("cursor of the smaller one", Expect.cursor(x, 0), "2,0");
        Expect.same("smaller second", x.setShare(LR, 75), true);
        Expect.same("cut again", Expect.host(x), "ab....|AB/ef....|EF/......|../......|..");
        Expect.same("parser", Expect.parser(x, 1), "2,8,9,1");
    }

    private static void sameRectanglesAnswerTrue() {
        PaneMultiplexer x = new PaneMultiplexer(9, 4);
        x.split(LR);
        Expect.type(x, 0, "abcdefgh~[2;3r~[3;");
        String before = Expect.all(x);
        Expect.same("the same share", x.setShare(LR, 50), true);
        Expect.same("a share with the same rectangles", x.setShare(LR, 51), true);
        Expect.same("nothing to see", Expect.all(x), before);
    }

    private static void shareOutlivesResizes() {
        PaneMultiplexer x = new PaneMultiplexer(9, 4);
        x.split(LR);
        x.setShare(LR, 51);
        x.resizeHost(24, 4);
        Expect.same("51 percent of 23", Expect.rect(x, 0), "0,0,11,4");
        x.setShare(LR, 99);
        x.resizeHost(8, 4);
        Expect.same("99 percent of 7", Expect.rect(x, 0), "0,0,6,4");
        x.resizeHost(24, 4);
        Expect.same("99 percent of 23", Expect.rect(x, 0), "0,0,22,4");
    }
}
