/** Promise 2 and the parser that it rests on. */
public final class FeedTest {
    public static void main(String[] args) {
        refusals();
        onlyLowEightBits();
        everyGroundByte();
        printingWraps();
        wrappingAtRegionBottomScrolls();
        lineFeeds();
        carriageReturnAndBackspace();
        everyEscapeByte();
        everySequenceByte();
        parameters();
        parametersStay();
        cursorMoves();
        positioning();
        erasing();
        scrolling();
        scrollingTheGreatestScreen();
        everyPaneAsTheGreatestScreen();
        everyPaneScrollsAlone();
        regions();
        regionsInOneRow();
        unfocusedPanes();
        Expect.finish();
    }

    private static void refusals() {
        PaneMultiplexer x = new PaneMultiplexer(12, 5);
        x.split(1);
        x.split(2);
        x.focus(1);
        x.close();
        Expect.type(x, 0, "abc~[2;3");
        String before = Expect.all(x);
        int[] dead = {1, 3, 7, 8, 9, 100, -1, -8, Integer.MIN_VALUE, Integer.MAX_VALUE};
        for (int id : dead) {
            for (int b : new int[] {65, 10, 27, -1, 0}) {
                Expect.same("feed(" + id + ", " + b + ")", x.feed(id, b), false);
            }
        }
        Expect.same("after refused feeds", Expect.all(x), before);
    }

    private static void onlyLowEightBits() {
        PaneMultiplexer x = new PaneMultiplexer(8, 4);
        String before = Expect.all(x);
        Expect.same("feed -1", x.feed(0, -1), true);
        Expect.same("-1 acts as 255", Expect.all(x), before);
        Expect.same("feed 256+65", x.feed(0, 256 + 65), true);
        Expect.same("feed -256+66", x.feed(0, -256 + 66), true);
        Expect.same("feed MIN+67", x.feed(0, Integer.MIN_VALUE + 67), true);
        Expect.same("feed MAX", x.feed(0, Integer.MAX_VALUE), true);
        Expect.same("low bits", Expect.screen(x, 0), "ABC...../......../......../........");
        Expect.same("feed 512+27", x.feed(0, 512 + 27), true);
        Expect.same("escape by low bits", Expect.parser(x, 0), "1,0,0,0");
        Expect.same("feed 1024+91", x.feed(0, 1024 + 91), true);
        Expect.same("[ by low bits", Expect.parser(x, 0), "2,0,0,0");
        Expect.same("feed 256+55", x.feed(0, 256 + 55), true);
        Expect.same("digit by low bits", Expect.parser(x, 0), "2,7,0,0");
    }

    private static void everyGroundByte() {
        for (int b = 0; b < 256; b++) {
            PaneMultiplexer x = new PaneMultiplexer(8, 4);
            Expect.type(x, 0, "pq");
            Expect.same("feed(0, " + b + ")", x.feed(0, b), true);
            String cursor = b >= 32 && b <= 126 ? "0,3"
                : b == 10 ? "1,2" : b == 13 ? "0,0" : b == 8 ? "0,1" : "0,2";
            int third = b >= 32 && b <= 126 ? b : 32;
            Expect.same("cursor after " + b, Expect.cursor(x, 0), cursor);
            Expect.same("char after " + b, x.paneChar(0, 0, 2), third);
            Expect.same("second char after " + b, x.paneChar(0, 0, 1), 'q');
            Expect.same("parser after " + b, Expect.parser(x, 0), b == 27 ? "1,0,0,0" : "0,0,0,0");
        }
    }

    private static void printingWraps() {
        PaneMultiplexer x = new PaneMultiplexer(8, 4);
        Expect.type(x, 0, "abcdefg");
        Expect.same("before the last column", Expect.cursor(x, 0), "0,7");
        Expect.type(x, 0, "h");
        Expect.same("after the last column", Expect.cursor(x, 0), "1,0");
        Expect.type(x, 0, "ijklmnopqrstuvwxABCDEFG");
        Expect.same("full but one", Expect.screen(x, 0), "abcdefgh/ijklmnop/qrstuvwx/ABCDEFG.");
        Expect.type(x, 0, "H");
        Expect.same("scrolled", Expect.screen(x, 0), "ijklmnop/qrstuvwx/ABCDEFGH/........");
        Expect.same("scrolled cursor", Expect.cursor(x, 0), "3,0");
    }

    private static void wrappingAtRegionBottomScrolls() {
        PaneMultiplexer x = new PaneMultiplexer(8, 5);
        Expect.type(x, 0, "0\n\r1\n\r2\n\r3\n\r4~[2;4r~[4;7Hxy");
        Expect.same("wrapped in region", Expect.screen(x, 0),
            "0......./2......./3.....xy/......../4.......");
        Expect.same("cursor stays at bottom", Expect.cursor(x, 0), "3,0");
        Expect.type(x, 0, "~[5;8Hz");
        Expect.same("wrap below region", Expect.screen(x, 0),
            "0......./2......./3.....xy/......../4......z");
        Expect.same("last row, no region", Expect.cursor(x, 0), "4,0");
    }

    private static void lineFeeds() {
        PaneMultiplexer x = new PaneMultiplexer(8, 4);
        Expect.type(x, 0, "a\nb\nc\nd");
        Expect.same("stairs", Expect.screen(x, 0), "a......./.b....../..c...../...d....");
        Expect.type(x, 0, "\n");
        Expect.same("scrolled stairs", Expect.screen(x, 0), ".b....../..c...../...d..../........");
        Expect.same("cursor keeps its column", Expect.cursor(x, 0), "3,4");
        Expect.type(x, 0, "~[1;2r~[4;1H\n");
        Expect.same("at the last row below the region", Expect.cursor(x, 0), "3,0");
        Expect.same("no scroll there", Expect.screen(x, 0), ".b....../..c...../...d..../........");
        Expect.type(x, 0, "~[3;1H\n");
        Expect.same("between region and last row", Expect.cursor(x, 0), "3,0");
        Expect.type(x, 0, "~[2;1H\n");
        Expect.same("at the region's bottom", Expect.cursor(x, 0), "1,0");
        Expect.same("scroll there", Expect.screen(x, 0), "..c...../......../...d..../........");
    }

    private static void carriageReturnAndBackspace() {
        PaneMultiplexer x = new PaneMultiplexer(8, 4);
        Expect.type(x, 0, "ab\b\b");
        Expect.same("back twice", Expect.cursor(x, 0), "0,0");
        Expect.type(x, 0, "\b");
        Expect.same("back at column 0", Expect.cursor(x, 0), "0,0");
        Expect.type(x, 0, "\n\b");
        Expect.same("back at column 0 of row 1", Expect.cursor(x, 0), "1,0");
        Expect.type(x, 0, "xyz\rw");
        Expect.same("return and overwrite", Expect.screen(x, 0), "ab....../wyz...../......../........");
        Expect.same("cursor after return", Expect.cursor(x, 0), "1,1");
    }

    private static void everyEscapeByte() {
        for (int b = 0; b < 256; b++) {
            PaneMultiplexer x = new PaneMultiplexer(8, 4);
            Expect.type(x, 0, "pq~[4;5;6A\n~");
            String screen = Expect.screen(x, 0);
            Expect.same("feed(0, " + b + ")", x.feed(0, b), true);
            Expect.same("parser after ESC " + b, Expect.parser(x, 0), b == 91 ? "2,0,0,0" : "0,4,5,2");
            Expect.same("cursor after ESC " + b, Expect.cursor(x, 0), "1,2");
            Expect.same("screen after ESC " + b, Expect.screen(x, 0), screen);
        }
    }

    private static void everySequenceByte() {
        String finals = "ABCDHJKSr";
        for (int b = 0; b < 256; b++) {
            PaneMultiplexer x = new PaneMultiplexer(8, 4);
            Expect.type(x, 0, "pq\nrs\nt~[2D~[1;3");
            String screen = Expect.screen(x, 0);
            Expect.same("feed(0, " + b + ")", x.feed(0, b), true);
            boolean digit = b >= '0' && b <= '9';
            String due = digit ? "2,1," + (30 + b - '0') + ",1" : b == ';' ? "2,1,3,2" : "0,1,3,1";
            Expect.same("parser after ESC [ 1 ; 3 " + b, Expect.parser(x, 0), due);
            if (finals.indexOf(b) < 0) {
                Expect.same("cursor after ESC [ 1 ; 3 " + b, Expect.cursor(x, 0), "2,3");
                Expect.same("screen after ESC [ 1 ; 3 " + b, Expect.screen(x, 0), screen);
                Expect.same("region after ESC [ 1 ; 3 " + b, Expect.region(x, 0), "0,3");
            }
        }
    }

    private static void parameters() {
        PaneMultiplexer x = new PaneMultiplexer(8, 4);
        Expect.type(x, 0, "~[9");
        Expect.same("9", Expect.parser(x, 0), "2,9,0,0");
        Expect.type(x, 0, "9");
        Expect.same("99", Expect.parser(x, 0), "2,99,0,0");
        Expect.type(x, 0, "0");
        Expect.same("990 is 99", Expect.parser(x, 0), "2,99,0,0");
        Expect.type(x, 0, ";0012");
        Expect.same("leading zeros", Expect.parser(x, 0), "2,99,12,1");
        Expect.type(x, 0, "3");
        Expect.same("0123 is 99", Expect.parser(x, 0), "2,99,99,1");
        Expect.type(x, 0, ";7");
        Expect.same("third parameter is dropped", Expect.parser(x, 0), "2,99,99,2");
        Expect.type(x, 0, ";;8");
        Expect.same("k stops at 2", Expect.parser(x, 0), "2,99,99,2");
        Expect.type(x, 0, "m~[;5");
        Expect.same("empty first parameter", Expect.parser(x, 0), "2,0,5,1");
        Expect.type(x, 0, "~");
        Expect.same("ESC ends a sequence", Expect.parser(x, 0), "0,0,5,1");
        Expect.type(x, 0, "[");
        Expect.same("and starts none", Expect.screen(x, 0), "[......./......../......../........");
    }

    private static void parametersStay() {
        PaneMultiplexer x = new PaneMultiplexer(8, 4);
        Expect.type(x, 0, "~[2;3;H");
        Expect.same("after a final", Expect.parser(x, 0), "0,2,3,2");
        Expect.type(x, 0, "a\n\r\b");
        Expect.same("after printing", Expect.parser(x, 0), "0,2,3,2");
        Expect.type(x, 0, "~");
        Expect.same("after ESC", Expect.parser(x, 0), "1,2,3,2");
        Expect.type(x, 0, "[");
        Expect.same("after ESC [", Expect.parser(x, 0), "2,0,0,0");
    }

    private static void cursorMoves() {
        PaneMultiplexer x = new PaneMultiplexer(10, 6);
        move(x, "~[B", "1,0");
        move(x, "~[0B", "2,0");
        move(x, "~[2B", "4,0");
        move(x, "~[2B", "5,0");
        move(x, "~[99B", "5,0");
        move(x, "~[A", "4,0");
        move(x, "~[0A", "3,0");
        move(x, "~[2A", "1,0");
        move(x, "~[2A", "0,0");
        move(x, "~[99A", "0,0");
        move(x, "~[C", "0,1");
        move(x, "~[0C", "0,2");
        move(x, "~[6C", "0,8");
        move(x, "~[C", "0,9");
        move(x, "~[99C", "0,9");
        move(x, "~[D", "0,8");
        move(x, "~[0D", "0,7");
        move(x, "~[6D", "0,1");
        move(x, "~[2D", "0,0");
        move(x, "~[99D", "0,0");
        move(x, "~[2;3r~[9B", "5,0");
        move(x, "~[9A", "0,0");
    }

    private static void positioning() {
        PaneMultiplexer x = new PaneMultiplexer(10, 6);
        move(x, "~[3;4H", "2,3");
        move(x, "~[H", "0,0");
        move(x, "~[6;10H", "5,9");
        move(x, "~[7;11H", "5,9");
        move(x, "~[99;99H", "5,9");
        move(x, "~[0;0H", "0,0");
        move(x, "~[4H", "3,0");
        move(x, "~[;5H", "0,4");
        move(x, "~[2;3;9H", "1,2");
    }

    private static void move(PaneMultiplexer x, String text, String cursor) {
        Expect.type(x, 0, text);
        Expect.same("cursor after " + text, Expect.cursor(x, 0), cursor);
    }

    private static void erasing() {
        PaneMultiplexer x = new PaneMultiplexer(8, 4);
        Expect.type(x, 0, "abcdefghijklmnopqrstuvwx~[2;4H~[K");
        Expect.same("erased to the end of line", Expect.screen(x, 0), "abcdefgh/ijk...../qrstuvwx/........");
        Expect.same("cursor after K", Expect.cursor(x, 0), "1,3");
        Expect.type(x, 0, "~[3;8H~[2K");
        Expect.same("last column alone", Expect.screen(x, 0), "abcdefgh/ijk...../qrstuvw./........");
        Expect.type(x, 0, "~[1;1H~[K");
        Expect.same("whole line", Expect.screen(x, 0), "......../ijk...../qrstuvw./........");
        Expect.type(x, 0, "~[2;3r~[2;2H~[J");
        Expect.same("erased screen", Expect.screen(x, 0), "......../......../......../........");
        Expect.same("cursor after J", Expect.cursor(x, 0), "1,1");
        Expect.same("region after J", Expect.region(x, 0), "1,2");
    }

    private static void scrolling() {
        PaneMultiplexer x = new PaneMultiplexer(8, 5);
        Expect.type(x, 0, "0\r\n1\r\n2\r\n3\r\n4~[3;3H~[S");
        Expect.same("scrolled once", Expect.screen(x, 0), "1......./2......./3......./4......./........");
        Expect.same("cursor after S", Expect.cursor(x, 0), "2,2");
        Expect.type(x, 0, "~[2S");
        Expect.same("scrolled twice", Expect.screen(x, 0), "3......./4......./......../......../........");
        Expect.type(x, 0, "~[H0\r\n1\r\n2\r\n3\r\n4~[2;4r~[2S");
        Expect.same("scrolled in region", Expect.screen(x, 0), "0......./3......./......../......../4.......");
        Expect.type(x, 0, "~[99S");
        Expect.same("scrolled all out", Expect.screen(x, 0), "0......./......../......../......../4.......");
    }

    private static void scrollingTheGreatestScreen() {
        PaneMultiplexer x = new PaneMultiplexer(24, 12);
        Expect.type(x, 0, "x".repeat(24 * 12));
        Expect.same("by the last char", Expect.screen(x, 0),
            ("x".repeat(24) + "/").repeat(11) + ".".repeat(24));
        Expect.type(x, 0, "~[2;11r~[3S");
        Expect.same("in region", Expect.screen(x, 0), ("x".repeat(24) + "/").repeat(8)
            + (".".repeat(24) + "/").repeat(3) + ".".repeat(24));
    }

    /** Eight panes side by side, each as high as the host. */
    private static PaneMultiplexer columns() {
        PaneMultiplexer x = new PaneMultiplexer(24, 12);
        for (int id : new int[] {0, 0, 1, 0, 2, 1, 3}) {
            x.focus(id);
            x.split(PaneMultiplexer.LEFT_RIGHT);
        }
        Expect.same("columns", x.paneCount(), 8);
        return x;
    }

    private static void everyPaneAsTheGreatestScreen() {
        String line = "x".repeat(24) + "/";
        String blank = ".".repeat(24) + "/";
        for (int id = 0; id < 8; id++) {
            PaneMultiplexer x = columns();
            for (int other = 0; other < 8; other++) {
                if (other != id) {
                    x.focus(other);
                    x.close();
                }
            }
            Expect.same("rectangle of " + id, Expect.rect(x, id), "0,0,24,12");
            Expect.type(x, id, "x".repeat(24 * 12));
            Expect.same("by the last char of " + id, Expect.screen(x, id) + "/", line.repeat(11) + blank);
            Expect.type(x, id, "~[12;24H\n");
            Expect.same("by a line feed in " + id, Expect.screen(x, id) + "/",
                line.repeat(10) + blank.repeat(2));
            Expect.type(x, id, "~[99S");
            Expect.same("by sequence in " + id, Expect.screen(x, id) + "/", blank.repeat(12));
        }
    }

    private static void everyPaneScrollsAlone() {
        for (int id = 0; id < 8; id++) {
            PaneMultiplexer x = columns();
            for (int each = 0; each < 8; each++) {
                int width = x.paneRect(each, PaneMultiplexer.RECT_W);
                // The last cell is filled while the region is elsewhere, so that nothing scrolls.
                Expect.type(x, each, String.valueOf(each).repeat(width * 12 - 1) + "~[1;2r~[12;99H" + each);
                Expect.type(x, each, "~[r~[12;1H");
            }
            Expect.type(x, id, "\n");
            for (int row = 0; row < 12; row++) {
                for (int each = 0; each < 8; each++) {
                    int due = each == id && row == 11 ? ' ' : '0' + each;
                    int last = x.paneRect(each, PaneMultiplexer.RECT_W) - 1;
                    Expect.same(each + " after a scroll of " + id, x.paneChar(each, row, 0), due);
                    Expect.same(each + " after a scroll of " + id, x.paneChar(each, row, last), due);
                }
            }
        }
    }

    private static void regions() {
        PaneMultiplexer x = new PaneMultiplexer(8, 6);
        region(x, "~[2;4r", "1,3", "0,0");
        region(x, "~[r", "0,5", "0,0");
        region(x, "~[3r", "2,5", "0,0");
        region(x, "~[;3r", "0,2", "0,0");
        region(x, "~[2;99r", "1,5", "0,0");
        region(x, "~[5;6r", "4,5", "0,0");
        region(x, "~[5;5r", "4,5", "2,3");
        region(x, "~[4;3r", "4,5", "2,3");
        region(x, "~[6r", "4,5", "2,3");
        region(x, "~[6;99r", "4,5", "2,3");
        region(x, "~[99;99r", "4,5", "2,3");
        region(x, "~[0;1r", "4,5", "2,3");
        region(x, "~[1;2r", "0,1", "0,0");
    }

    private static void region(PaneMultiplexer x, String text, String region, String cursor) {
        Expect.type(x, 0, "~[3;4H" + text);
        Expect.same("region after " + text, Expect.region(x, 0), region);
        Expect.same("cursor after " + text, Expect.cursor(x, 0), cursor);
    }

    private static void regionsInOneRow() {
        PaneMultiplexer x = new PaneMultiplexer(8, 4);
        x.split(PaneMultiplexer.TOP_BOTTOM);
        Expect.same("one row", Expect.rect(x, 0), "0,0,8,1");
        Expect.type(x, 0, "abc~[r");
        Expect.same("no region in one row", Expect.cursor(x, 0), "0,3");
        Expect.same("region of one row", Expect.region(x, 0), "0,0");
        Expect.type(x, 0, "\n");
        Expect.same("scrolled out", Expect.screen(x, 0), "........");
        Expect.same("cursor in one row", Expect.cursor(x, 0), "0,3");
        Expect.type(x, 0, "defgh");
        Expect.same("wrapped out", Expect.screen(x, 0), "........");
        Expect.same("cursor after the wrap", Expect.cursor(x, 0), "0,0");
    }

    private static void unfocusedPanes() {
        PaneMultiplexer x = new PaneMultiplexer(20, 8);
        x.split(PaneMultiplexer.LEFT_RIGHT);
        x.split(PaneMultiplexer.TOP_BOTTOM);
        for (int id = 0; id < 3; id++) {
            Expect.type(x, id, "start" + id);
        }
        for (int id = 0; id < 3; id++) {
            for (int b = 0; b < 256; b++) {
                feedOne(x, id, b);
            }
            for (char c : "~[2;3r~[9;9H~[S~[K~[J~[1;2".toCharArray()) {
                feedOne(x, id, c == '~' ? 27 : c);
            }
        }
    }

    private static void feedOne(PaneMultiplexer x, int id, int b) {
        String[] before = new String[3];
        for (int other = 0; other < 3; other++) {
            before[other] = Expect.pane(x, other);
        }
        String owners = Expect.owners(x);
        String outside = hostOutside(x, id);
        Expect.same("feed(" + id + ", " + b + ")", x.feed(id, b), true);
        for (int other = 0; other < 3; other++) {
            if (other != id) {
                Expect.same("another pane after " + b, Expect.pane(x, other), before[other]);
            }
        }
        Expect.same("focus after " + b, x.focused(), 2);
        Expect.same("owners after " + b, Expect.owners(x), owners);
        Expect.same("host outside the pane after " + b, hostOutside(x, id), outside);
    }

    private static String hostOutside(PaneMultiplexer x, int id) {
        StringBuilder text = new StringBuilder();
        for (int row = 0; row < 8; row++) {
            for (int col = 0; col < 20; col++) {
                text.append(x.hostOwner(row, col) == id ? '?' : x.hostChar(row, col));
            }
        }
        return text.toString();
    }
}
