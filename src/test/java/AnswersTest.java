/** Promises 9 to 15. */
public final class AnswersTest {
    private static final int[] ODD = {-3, -2, -1, 4, 8, 9, 100, 256, Integer.MIN_VALUE,
        Integer.MAX_VALUE};

    public static void main(String[] args) {
        focusedAndCount();
        rectangles();
        states();
        chars();
        owners();
        hostChars();
        crossingBorders();
        sizes();
        nothingChanges();
        Expect.finish();
    }

    /** Panes 0, 2 and 3 live, 1 closed and 4 to 7 never made. */
    private static PaneMultiplexer sample() {
        PaneMultiplexer x = new PaneMultiplexer(13, 7);
        x.split(PaneMultiplexer.LEFT_RIGHT);
        x.split(PaneMultiplexer.TOP_BOTTOM);
        x.split(PaneMultiplexer.LEFT_RIGHT);
        x.focus(1);
        x.close();
        Expect.type(x, 0, "Hello~[2;6r~[3;2Hxy~[4;5");
        Expect.type(x, 2, "ab~");
        Expect.type(x, 3, "cd");
        return x;
    }

    private static void focusedAndCount() {
        PaneMultiplexer x = new PaneMultiplexer(24, 12);
        for (int count = 1; count < 8; count++) {
            Expect.same("count", x.paneCount(), count);
            Expect.same("focused", x.focused(), count - 1);
            x.split(count % 2 == 1 ? PaneMultiplexer.LEFT_RIGHT : PaneMultiplexer.TOP_BOTTOM);
        }
        Expect.same("eight", x.paneCount(), 8);
        for (int id = 0; id < 8; id++) {
            x.focus(id);
            Expect.same("focused", x.focused(), id);
            Expect.same("is live", x.paneRect(x.focused(), PaneMultiplexer.RECT_W) > 0, true);
        }
        x.close();
        Expect.same("seven", x.paneCount(), 7);
        Expect.same("still a live one", x.focused(), 6);
    }

    private static void rectangles() {
        PaneMultiplexer x = sample();
        Expect.same("0", Expect.rect(x, 0), "0,0,6,7");
        Expect.same("2", Expect.rect(x, 2), "7,0,2,7");
        Expect.same("3", Expect.rect(x, 3), "10,0,3,7");
        for (int part = 0; part < 4; part++) {
            for (int id : new int[] {1, 4, 5, 6, 7, 8, 9, -1, Integer.MIN_VALUE,
                Integer.MAX_VALUE}) {
                Expect.same("paneRect(" + id + ", " + part + ")", x.paneRect(id, part), -1);
            }
        }
        for (int part : ODD) {
            Expect.same("paneRect(0, " + part + ")", x.paneRect(0, part), -1);
            Expect.same("paneRect(3, " + part + ")", x.paneRect(3, part), -1);
        }
    }

    private static void states() {
        PaneMultiplexer x = sample();
        int[] due = {2, 3, 1, 5, 2, 4, 5, 1};
        for (int part = 0; part < 8; part++) {
            Expect.same("paneState(0, " + part + ")", x.paneState(0, part), due[part]);
            for (int id : new int[] {1, 4, 7, 8, -1, Integer.MIN_VALUE, Integer.MAX_VALUE}) {
                Expect.same("paneState(" + id + ", " + part + ")", x.paneState(id, part), -1);
            }
        }
        for (int part : ODD) {
            if (part != 4) {
                Expect.same("paneState(0, " + part + ")", x.paneState(0, part), -1);
            }
        }
        Expect.same("escape mode", x.paneState(2, PaneMultiplexer.ST_MODE), PaneMultiplexer.MODE_ESCAPE);
        Expect.same("ground mode", x.paneState(3, PaneMultiplexer.ST_MODE), PaneMultiplexer.MODE_GROUND);
    }

    private static void chars() {
        PaneMultiplexer x = sample();
        Expect.same("screen 0", Expect.screen(x, 0), "Hello./....../.xy.../....../....../....../......");
        Expect.same("first", x.paneChar(0, 0, 0), 'H');
        Expect.same("blank", x.paneChar(0, 6, 5), ' ');
        Expect.same("row -1", x.paneChar(0, -1, 0), 0);
        Expect.same("row h", x.paneChar(0, 7, 0), 0);
        Expect.same("col -1", x.paneChar(0, 1, -1), 0);
        Expect.same("col w", x.paneChar(0, 0, 6), 0);
        Expect.same("col w of the narrow pane", x.paneChar(2, 0, 2), 0);
        for (int odd : new int[] {Integer.MIN_VALUE, -1, 24, 100, Integer.MAX_VALUE}) {
            Expect.same("row " + odd, x.paneChar(0, odd, 0), 0);
            Expect.same("col " + odd, x.paneChar(0, 0, odd), 0);
            Expect.same("both " + odd, x.paneChar(0, odd, odd), 0);
        }
        for (int id : new int[] {1, 4, 5, 6, 7, 8, -1, Integer.MIN_VALUE, Integer.MAX_VALUE}) {
            Expect.same("pane " + id, x.paneChar(id, 0, 0), 0);
        }
    }

    private static void owners() {
        PaneMultiplexer x = sample();
        Expect.same("owners", Expect.owners(x), ("/000000b22b333").repeat(7).substring(1));
        for (int odd : new int[] {Integer.MIN_VALUE, -1, 13, 24, Integer.MAX_VALUE}) {
            Expect.same("row " + odd, x.hostOwner(odd, 0), PaneMultiplexer.OWNER_OUTSIDE);
            Expect.same("col " + odd, x.hostOwner(0, odd), PaneMultiplexer.OWNER_OUTSIDE);
            Expect.same("both " + odd, x.hostOwner(odd, odd), PaneMultiplexer.OWNER_OUTSIDE);
        }
        Expect.same("row H", x.hostOwner(7, 6), PaneMultiplexer.OWNER_OUTSIDE);
        Expect.same("last cell", x.hostOwner(6, 12), 3);
        Expect.same("border", x.hostOwner(6, 6), PaneMultiplexer.OWNER_BORDER);
    }

    private static void hostChars() {
        PaneMultiplexer x = sample();
        Expect.same("host", Expect.host(x), "Hello.|ab|cd./......|..|.../.xy...|..|.../......|..|..."
            + "/......|..|.../......|..|.../......|..|...");
        for (int odd : new int[] {Integer.MIN_VALUE, -1, 13, 24, Integer.MAX_VALUE}) {
            Expect.same("row " + odd, x.hostChar(odd, 0), 0);
            Expect.same("col " + odd, x.hostChar(0, odd), 0);
            Expect.same("both " + odd, x.hostChar(odd, odd), 0);
        }
        Expect.same("row H", x.hostChar(7, 6), 0);
        Expect.type(x, 3, "e");
        Expect.same("at once", x.hostChar(0, 12), 'e');
        x.resizeHost(8, 4);
        Expect.same("after a resize", Expect.host(x), "Hel|a|cd/...|.|../.xy|.|../...|.|..");
    }

    private static void crossingBorders() {
        PaneMultiplexer x = new PaneMultiplexer(11, 7);
        x.split(PaneMultiplexer.TOP_BOTTOM);
        x.split(PaneMultiplexer.LEFT_RIGHT);
        x.split(PaneMultiplexer.TOP_BOTTOM);
        x.focus(0);
        x.split(PaneMultiplexer.LEFT_RIGHT);
        Expect.type(x, 0, "|-");
        Expect.same("chars", Expect.host(x), "|-...|...../.....|...../.....|...../-----------"
            + "/.....|...../.....|-----/.....|.....");
        Expect.same("owners", Expect.owners(x), "00000b44444/00000b44444/00000b44444/bbbbbbbbbbb"
            + "/11111b22222/11111bbbbbb/11111b33333");
    }

    private static void sizes() {
        PaneMultiplexer x = sample();
        Expect.same("W", x.hostSize(PaneMultiplexer.RECT_W), 13);
        Expect.same("H", x.hostSize(PaneMultiplexer.RECT_H), 7);
        Expect.same("x", x.hostSize(PaneMultiplexer.RECT_X), -1);
        Expect.same("y", x.hostSize(PaneMultiplexer.RECT_Y), -1);
        for (int part : ODD) {
            Expect.same("hostSize(" + part + ")", x.hostSize(part), -1);
        }
    }

    private static void nothingChanges() {
        PaneMultiplexer x = sample();
        String before = Expect.all(x);
        for (int a = -3; a < 26; a++) {
            x.hostSize(a);
            for (int b = -3; b < 26; b++) {
                x.paneRect(a, b);
                x.paneState(a, b);
                x.hostOwner(a, b);
                x.hostChar(a, b);
                x.paneChar(0, a, b);
                x.paneChar(a, b, a);
            }
        }
        Expect.same("after all questions", Expect.all(x), before);
    }
}
