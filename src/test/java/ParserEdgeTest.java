/** The boundary cases of the section "Parser", a method for each sentence. */
public final class ParserEdgeTest {
    private static final int LR = PaneMultiplexer.LEFT_RIGHT;
    private static final int TB = PaneMultiplexer.TOP_BOTTOM;

    public static void main(String[] args) {
        lowEightBits();
        parameterRange();
        printableBytes();
        lastColumn();
        lineFeedByte();
        carriageReturn();
        backspace();
        escapeByte();
        otherGroundBytes();
        bracketAfterEscape();
        otherBytesAfterEscape();
        digits();
        digitsOfTheSecond();
        digitsOfTheThird();
        semicolons();
        finalBytes();
        otherSequenceBytes();
        zeroCountsAsOne();
        cursorUp();
        cursorDown();
        cursorRight();
        cursorLeft();
        positioning();
        eraseScreen();
        eraseLine();
        scrollTimes();
        regionBottomMissing();
        regionBottomTooLarge();
        regionTaken();
        regionRefused();
        otherFinals();
        finalsKeepParameters();
        lineFeedAtTheBottom();
        lineFeedElsewhere();
        lineFeedAtTheLastRow();
        scrollRows();
        scrollOfOneRow();
        scrollKeepsTheCursor();
        Expect.finish();
    }

    private static PaneMultiplexer typed(int width, int height, String text) {
        PaneMultiplexer x = new PaneMultiplexer(width, height);
        Expect.type(x, 0, text);
        return x;
    }

    /** Rows "0", "1", .. of an 8 by 6 screen, the cursor at (0,0). */
    private static PaneMultiplexer numbered() {
        return typed(8, 6, "0\r\n1\r\n2\r\n3\r\n4\r\n5~[H");
    }

    /** The first column of pane 0. */
    private static String column(PaneMultiplexer x) {
        StringBuilder text = new StringBuilder();
        for (int row = 0; row < x.paneRect(0, PaneMultiplexer.RECT_H); row++) {
            char c = x.paneChar(0, row, 0);
            text.append(c == ' ' ? '.' : c);
        }
        return text.toString();
    }

    private static void cursorAfter(PaneMultiplexer x, String text, String due) {
        Expect.type(x, 0, text);
        Expect.same("cursor after " + text, Expect.cursor(x, 0), due);
    }

    private static void lowEightBits() {
        Expect.sentence("Parser: A fed byte is b = arg & 255.");
        int[] fed = {65, 256 + 66, -256 + 67, Integer.MIN_VALUE + 68, 0x7fffff00 + 69};
        PaneMultiplexer x = new PaneMultiplexer(8, 4);
        for (int b : fed) {
            Expect.same("feed(0, " + b + ")", x.feed(0, b), true);
        }
        Expect.same("all five", Expect.screen(x, 0).substring(0, 8), "ABCDE...");
        String before = Expect.all(x);
        for (int b : new int[] {-1, Integer.MAX_VALUE, Integer.MIN_VALUE, 256, 128 + 65, -128 + 65}) {
            Expect.same("feed(0, " + b + ")", x.feed(0, b), true);
            Expect.same("no effect of " + b, Expect.all(x), before);
        }
    }

    private static void parameterRange() {
        Expect.sentence("Parser: parameters p1, p2 (each 0..99) and a parameter index k (0..2)");
        PaneMultiplexer x = typed(8, 4, "~[");
        Expect.same("least", Expect.parser(x, 0), "2,0,0,0");
        Expect.type(x, 0, "9999999999;9999999999;9999999999;;;;9");
        Expect.same("greatest", Expect.parser(x, 0), "2,99,99,2");
    }

    private static void printableBytes() {
        Expect.sentence("Parser, GROUND: 32..126: the char b is stored at (row, col); col = col+1");
        int[] bytes = {31, 32, 33, 125, 126, 127};
        for (int b : bytes) {
            PaneMultiplexer x = typed(8, 4, "xxx~[1;2H");
            x.feed(0, b);
            boolean printed = b >= 32 && b <= 126;
            Expect.same("char after " + b, x.paneChar(0, 0, 1), printed ? b : 'x');
            Expect.same("cursor after " + b, Expect.cursor(x, 0), printed ? "0,2" : "0,1");
            Expect.same("the next after " + b, x.paneChar(0, 0, 2), 'x');
        }
    }

    private static void lastColumn() {
        Expect.sentence("Parser, GROUND: if col == w then col = 0 and LINEFEED");
        PaneMultiplexer x = new PaneMultiplexer(8, 4);
        cursorAfter(x, "1234567", "0,7");
        cursorAfter(x, "8", "1,0");
        Expect.same("last column", x.paneChar(0, 0, 7), '8');
        cursorAfter(x, "~[4;8H*", "3,0");
        Expect.same("the last cell scrolls", Expect.screen(x, 0), "......../......../.......*/........");
        PaneMultiplexer narrow = new PaneMultiplexer(8, 4);
        narrow.split(LR);
        narrow.setShare(LR, 1);
        cursorAfter(narrow, "a", "1,0");
        cursorAfter(narrow, "bc", "3,0");
        cursorAfter(narrow, "d", "3,0");
        Expect.same("one column", Expect.screen(narrow, 0), "b/c/d/.");
    }

    private static void lineFeedByte() {
        Expect.sentence("Parser, GROUND: 10: LINEFEED.");
        PaneMultiplexer x = new PaneMultiplexer(8, 4);
        cursorAfter(x, "ab\n", "1,2");
        cursorAfter(x, "~[1;8H\n", "1,7");
    }

    private static void carriageReturn() {
        Expect.sentence("Parser, GROUND: 13: col = 0.");
        PaneMultiplexer x = new PaneMultiplexer(8, 4);
        cursorAfter(x, "\r", "0,0");
        cursorAfter(x, "~[3;2H\r", "2,0");
        cursorAfter(x, "~[4;8H\r", "3,0");
    }

    private static void backspace() {
        Expect.sentence("Parser, GROUND: 8: if col > 0 then col = col-1.");
        PaneMultiplexer x = new PaneMultiplexer(8, 4);
        cursorAfter(x, "\b", "0,0");
        cursorAfter(x, "a\b", "0,0");
        Expect.same("the char stays", x.paneChar(0, 0, 0), 'a');
        cursorAfter(x, "~[2;1H\b", "1,0");
        cursorAfter(x, "~[2;2H\b", "1,0");
        cursorAfter(x, "~[4;8H\b", "3,6");
    }

    private static void escapeByte() {
        Expect.sentence("Parser, GROUND: 27: mode = ESCAPE.");
        PaneMultiplexer x = typed(8, 4, "~[7;8;m~[3;8r~[2;2H~");
        Expect.same("parser", Expect.parser(x, 0), "1,2,2,1");
        Expect.same("cursor", Expect.cursor(x, 0), "1,1");
    }

    private static void otherGroundBytes() {
        Expect.sentence("Parser, GROUND: Any other byte: no effect.");
        PaneMultiplexer x = typed(8, 4, "abcdefgh".repeat(3) + "abc~[2;3r~[2;2H");
        String before = Expect.all(x);
        for (int b = 0; b < 256; b++) {
            if ((b < 32 || b > 126) && b != 8 && b != 10 && b != 13 && b != 27) {
                x.feed(0, b);
                Expect.same("after " + b, Expect.all(x), before);
            }
        }
    }

    private static void bracketAfterEscape() {
        Expect.sentence("Parser, ESCAPE: 91 '[': mode = CSI, p1 = 0, p2 = 0, k = 0.");
        PaneMultiplexer x = typed(8, 4, "~[99;99;m~");
        Expect.same("before", Expect.parser(x, 0), "1,99,99,2");
        Expect.type(x, 0, "[");
        Expect.same("after", Expect.parser(x, 0), "2,0,0,0");
    }

    private static void otherBytesAfterEscape() {
        Expect.sentence("Parser, ESCAPE: Any other byte: mode = GROUND, no other effect.");
        for (int b = 0; b < 256; b++) {
            if (b != 91) {
                PaneMultiplexer x = typed(8, 4, "abcdefgh".repeat(3) + "abc~[2;3r~[2;2;H~");
                String screen = Expect.screen(x, 0);
                x.feed(0, b);
                Expect.same("parser after ESC " + b, Expect.parser(x, 0), "0,2,2,2");
                Expect.same("cursor after ESC " + b, Expect.cursor(x, 0), "1,1");
                Expect.same("region after ESC " + b, Expect.region(x, 0), "1,2");
                Expect.same("screen after ESC " + b, Expect.screen(x, 0), screen);
            }
        }
    }

    private static void digits() {
        Expect.sentence("Parser, CSI: '0'..'9' (48..57): if k == 0 then p1 = min(99, p1*10+digit)");
        String[] texts = {"0", "9", "00", "10", "98", "99", "100", "101", "990", "0099"};
        int[] due = {0, 9, 0, 10, 98, 99, 99, 99, 99, 99};
        for (int i = 0; i < texts.length; i++) {
            PaneMultiplexer x = typed(8, 4, "~[" + texts[i]);
            Expect.same("p1 of " + texts[i], Expect.parser(x, 0), "2," + due[i] + ",0,0");
        }
        PaneMultiplexer slash = typed(8, 4, "~[4/");
        Expect.same("47 is no digit", Expect.parser(slash, 0), "0,4,0,0");
        PaneMultiplexer colon = typed(8, 4, "~[4:");
        Expect.same("58 is no digit", Expect.parser(colon, 0), "0,4,0,0");
    }

    private static void digitsOfTheSecond() {
        Expect.sentence("Parser, CSI: if k == 1 then p2 = min(99, p2*10+digit)");
        String[] texts = {"0", "9", "00", "10", "98", "99", "100", "101", "990", "0099"};
        int[] due = {0, 9, 0, 10, 98, 99, 99, 99, 99, 99};
        for (int i = 0; i < texts.length; i++) {
            PaneMultiplexer x = typed(8, 4, "~[5;" + texts[i]);
            Expect.same("p2 of " + texts[i], Expect.parser(x, 0), "2,5," + due[i] + ",1");
        }
    }

    private static void digitsOfTheThird() {
        Expect.sentence("Parser, CSI: if k == 2 nothing");
        PaneMultiplexer x = typed(8, 4, "~[5;6;");
        for (char c = '0'; c <= '9'; c++) {
            x.feed(0, c);
            Expect.same("after " + c, Expect.parser(x, 0), "2,5,6,2");
        }
    }

    private static void semicolons() {
        Expect.sentence("Parser, CSI: 59 ';': if k < 2 then k = k+1.");
        PaneMultiplexer x = typed(8, 4, "~[");
        int[] due = {1, 2, 2, 2};
        for (int k : due) {
            Expect.type(x, 0, ";");
            Expect.same("index", Expect.parser(x, 0), "2,0,0," + k);
        }
    }

    private static void finalBytes() {
        Expect.sentence("Parser, CSI: 64..126: mode = GROUND, then the final byte acts as listed");
        for (int b = 64; b <= 126; b++) {
            PaneMultiplexer x = typed(8, 4, "~[2;3");
            x.feed(0, b);
            Expect.same("parser after " + b, Expect.parser(x, 0), "0,2,3,1");
        }
        PaneMultiplexer x = typed(8, 4, "~[2;3HA");
        Expect.same("the byte after a final is printed", x.paneChar(0, 1, 2), 'A');
    }

    private static void otherSequenceBytes() {
        Expect.sentence("Parser, CSI: Any other byte: mode = GROUND, no other effect.");
        for (int b = 0; b < 256; b++) {
            if (b < 48 || b == 58 || b > 59 && b < 64 || b > 126) {
                PaneMultiplexer x = typed(8, 4, "abcdefgh".repeat(3) + "abc~[2;3r~[2;2H~[1;3");
                String screen = Expect.screen(x, 0);
                x.feed(0, b);
                Expect.same("parser after " + b, Expect.parser(x, 0), "0,1,3,1");
                Expect.same("cursor after " + b, Expect.cursor(x, 0), "1,1");
                Expect.same("region after " + b, Expect.region(x, 0), "1,2");
                Expect.same("screen after " + b, Expect.screen(x, 0), screen);
            }
        }
    }

    private static void zeroCountsAsOne() {
        Expect.sentence("Parser: N1 = p1 if p1 > 0 else 1; N2 = p2 if p2 > 0 else 1");
        PaneMultiplexer x = new PaneMultiplexer(8, 6);
        cursorAfter(x, "~[B", "1,0");
        cursorAfter(x, "~[0B", "2,0");
        cursorAfter(x, "~[1B", "3,0");
        cursorAfter(x, "~[2B", "5,0");
        cursorAfter(x, "~[3H", "2,0");
        cursorAfter(x, "~[3;H", "2,0");
        cursorAfter(x, "~[3;0H", "2,0");
        cursorAfter(x, "~[3;1H", "2,0");
        cursorAfter(x, "~[3;2H", "2,1");
    }

    private static void cursorUp() {
        Expect.sentence("Parser: 'A' (65): row = max(0, row-N1).");
        PaneMultiplexer x = typed(8, 6, "~[4;5r");
        cursorAfter(x, "~[6;3H~[4A", "1,2");
        cursorAfter(x, "~[6;3H~[5A", "0,2");
        cursorAfter(x, "~[6;3H~[6A", "0,2");
        cursorAfter(x, "~[6;3H~[99A", "0,2");
        cursorAfter(x, "~[A", "0,2");
    }

    private static void cursorDown() {
        Expect.sentence("Parser: 'B' (66): row = min(h-1, row+N1).");
        PaneMultiplexer x = typed(8, 6, "top~[2;3r");
        cursorAfter(x, "~[1;3H~[4B", "4,2");
        cursorAfter(x, "~[1;3H~[5B", "5,2");
        cursorAfter(x, "~[1;3H~[6B", "5,2");
        cursorAfter(x, "~[1;3H~[99B", "5,2");
        cursorAfter(x, "~[B", "5,2");
        Expect.same("no scroll", column(x), "t.....");
    }

    private static void cursorRight() {
        Expect.sentence("Parser: 'C' (67): col = min(w-1, col+N1).");
        PaneMultiplexer x = new PaneMultiplexer(8, 6);
        cursorAfter(x, "~[2;1H~[6C", "1,6");
        cursorAfter(x, "~[2;1H~[7C", "1,7");
        cursorAfter(x, "~[2;1H~[8C", "1,7");
        cursorAfter(x, "~[2;1H~[99C", "1,7");
        cursorAfter(x, "~[C", "1,7");
    }

    private static void cursorLeft() {
        Expect.sentence("Parser: 'D' (68): col = max(0, col-N1).");
        PaneMultiplexer x = new PaneMultiplexer(8, 6);
        cursorAfter(x, "~[2;8H~[6D", "1,1");
        cursorAfter(x, "~[2;8H~[7D", "1,0");
        cursorAfter(x, "~[2;8H~[8D", "1,0");
        cursorAfter(x, "~[2;8H~[99D", "1,0");
        cursorAfter(x, "~[D", "1,0");
    }

    private static void positioning() {
        Expect.sentence("Parser: 'H' (72): row = min(h-1, N1-1), col = min(w-1, N2-1).");
        PaneMultiplexer x = typed(8, 6, "~[3;4r");
        cursorAfter(x, "~[5;7H", "4,6");
        cursorAfter(x, "~[6;8H", "5,7");
        cursorAfter(x, "~[7;7H", "5,6");
        cursorAfter(x, "~[5;9H", "4,7");
        cursorAfter(x, "~[99;99H", "5,7");
        cursorAfter(x, "~[H", "0,0");
        cursorAfter(x, "~[;3H", "0,2");
    }

    private static void eraseScreen() {
        Expect.sentence("Parser: 'J' (74): every cell of the pane becomes blank; cursor unchanged.");
        for (String param : new String[] {"", "0", "1", "2", "9;9"}) {
            PaneMultiplexer x = new PaneMultiplexer(8, 6);
            Expect.type(x, 0, "abcdefgh".repeat(5) + "abcdefg~[2;3r~[6;8Hh~[3;4H~[" + param + "J");
            Expect.same("screen after " + param + "J", Expect.screen(x, 0),
                "/........".repeat(6).substring(1));
            Expect.same("cursor after " + param + "J", Expect.cursor(x, 0), "2,3");
            Expect.same("region after " + param + "J", Expect.region(x, 0), "1,2");
        }
    }

    private static void eraseLine() {
        Expect.sentence("Parser: 'K' (75): cells (row, col..w-1) become blank; cursor unchanged.");
        int[] cols = {0, 1, 6, 7};
        String[] due = {"........", "a.......", "abcdef..", "abcdefg."};
        for (String param : new String[] {"", "1", "2"}) {
            for (int i = 0; i < cols.length; i++) {
                PaneMultiplexer x = new PaneMultiplexer(8, 4);
                Expect.type(x, 0, "abcdefgh".repeat(3) + "~[2;" + (cols[i] + 1) + "H~[" + param + "K");
                Expect.same("from " + cols[i], Expect.screen(x, 0),
                    "abcdefgh/" + due[i] + "/abcdefgh/........");
                Expect.same("cursor", Expect.cursor(x, 0), "1," + cols[i]);
            }
        }
        PaneMultiplexer last = typed(8, 4, "~[1;2r~[4;1Habcdefgh~[4;8H~[K");
        Expect.same("in the last cell", Expect.screen(last, 0), "......../......../......../abcdefg.");
    }

    private static void scrollTimes() {
        Expect.sentence("Parser: 'S' (83): SCROLL, N1 times.");
        String[] texts = {"~[S", "~[0S", "~[1S", "~[2S", "~[5S", "~[6S", "~[7S", "~[99S"};
        String[] due = {"12345.", "12345.", "12345.", "2345..", "5.....", "......", "......", "......"};
        for (int i = 0; i < texts.length; i++) {
            PaneMultiplexer x = numbered();
            Expect.type(x, 0, texts[i]);
            Expect.same("after " + texts[i], column(x), due[i]);
        }
        PaneMultiplexer x = numbered();
        Expect.type(x, 0, "~[2;4r~[3S");
        Expect.same("as often as the region has rows", column(x), "0...45");
    }

    private static void regionAfter(PaneMultiplexer x, String text, String region, String cursor) {
        Expect.type(x, 0, "~[3;4H" + text);
        Expect.same("region after " + text, Expect.region(x, 0), region);
        Expect.same("cursor after " + text, Expect.cursor(x, 0), cursor);
    }

    private static void regionBottomMissing() {
        Expect.sentence("Parser, 'r': bb = p2 if p2 > 0 else h");
        PaneMultiplexer x = new PaneMultiplexer(8, 6);
        regionAfter(x, "~[2r", "1,5", "0,0");
        regionAfter(x, "~[3;0r", "2,5", "0,0");
        regionAfter(x, "~[r", "0,5", "0,0");
    }

    private static void regionBottomTooLarge() {
        Expect.sentence("Parser, 'r': if bb > h then bb = h");
        PaneMultiplexer x = new PaneMultiplexer(8, 6);
        regionAfter(x, "~[2;5r", "1,4", "0,0");
        regionAfter(x, "~[2;6r", "1,5", "0,0");
        regionAfter(x, "~[3;7r", "2,5", "0,0");
        regionAfter(x, "~[4;99r", "3,5", "0,0");
    }

    private static void regionTaken() {
        Expect.sentence("Parser, 'r': if t < bb then top = t-1, bottom = bb-1, row = 0, col = 0");
        PaneMultiplexer x = new PaneMultiplexer(8, 6);
        regionAfter(x, "~[1;2r", "0,1", "0,0");
        regionAfter(x, "~[5;6r", "4,5", "0,0");
        regionAfter(x, "~[1;6r", "0,5", "0,0");
        regionAfter(x, "~[0;3r", "0,2", "0,0");
    }

    private static void regionRefused() {
        Expect.sentence("Parser, 'r': otherwise nothing changes");
        PaneMultiplexer x = typed(8, 6, "~[2;4r");
        for (String text : new String[] {"~[1;1r", "~[0;1r", "~[;1r", "~[3;3r", "~[4;3r", "~[6r",
            "~[6;6r", "~[6;99r", "~[7r", "~[7;99r", "~[99;99r", "~[99r"}) {
            regionAfter(x, text, "1,3", "2,3");
        }
        PaneMultiplexer low = new PaneMultiplexer(8, 4);
        low.split(TB);
        for (String text : new String[] {"~[r", "~[1;1r", "~[1;2r", "~[2;1r", "~[1;99r"}) {
            Expect.type(low, 0, "~[1;4H" + text);
            Expect.same("region of one row after " + text, Expect.region(low, 0), "0,0");
            Expect.same("cursor in one row after " + text, Expect.cursor(low, 0), "0,3");
        }
    }

    private static void otherFinals() {
        Expect.sentence("Parser: Any other final: no effect.");
        for (int b = 64; b <= 126; b++) {
            if ("ABCDHJKSr".indexOf(b) < 0) {
                PaneMultiplexer x = typed(8, 4, "abcdefgh".repeat(3) + "abc~[2;3r~[2;2H~[1;3");
                String screen = Expect.screen(x, 0);
                x.feed(0, b);
                Expect.same("cursor after " + b, Expect.cursor(x, 0), "1,1");
                Expect.same("region after " + b, Expect.region(x, 0), "1,2");
                Expect.same("screen after " + b, Expect.screen(x, 0), screen);
            }
        }
    }

    private static void finalsKeepParameters() {
        Expect.sentence("Parser: A final does not reset p1, p2 or k; they keep their values until"
            + " the next ESC [.");
        for (char c : "ABCDHJKSrm@".toCharArray()) {
            PaneMultiplexer x = typed(8, 4, "~[2;3;" + c);
            Expect.same("after " + c, Expect.parser(x, 0), "0,2,3,2");
            Expect.type(x, 0, "9;text\r\n\b~7~");
            Expect.same("until the next ESC", Expect.parser(x, 0), "1,2,3,2");
            Expect.type(x, 0, "[");
            Expect.same("after ESC [", Expect.parser(x, 0), "2,0,0,0");
        }
    }

    private static void lineFeedAtTheBottom() {
        Expect.sentence("Parser: LINEFEED: if row == bottom then SCROLL");
        PaneMultiplexer x = numbered();
        cursorAfter(x, "~[2;4r~[4;1H\n", "3,0");
        Expect.same("at the region's bottom", column(x), "023.45");
        PaneMultiplexer y = numbered();
        cursorAfter(y, "~[6;1H\n", "5,0");
        Expect.same("at the last row", column(y), "12345.");
    }

    private static void lineFeedElsewhere() {
        Expect.sentence("Parser: LINEFEED: else if row < h-1 then row = row+1");
        PaneMultiplexer x = numbered();
        Expect.type(x, 0, "~[2;4r");
        cursorAfter(x, "~[1;1H\n", "1,0");
        cursorAfter(x, "~[2;1H\n", "2,0");
        cursorAfter(x, "~[3;1H\n", "3,0");
        cursorAfter(x, "~[5;1H\n", "5,0");
        Expect.same("no scroll", column(x), "012345");
    }

    private static void lineFeedAtTheLastRow() {
        Expect.sentence("Parser: LINEFEED: else nothing");
        PaneMultiplexer x = numbered();
        Expect.type(x, 0, "~[2;4r~[6;3H");
        String before = Expect.all(x);
        Expect.type(x, 0, "\n");
        Expect.same("the last row below the region", Expect.all(x), before);
        cursorAfter(x, "~[6;8H*", "5,0");
        Expect.same("a wrap there", column(x), "012345");
    }

    private static void scrollRows() {
        Expect.sentence("Parser: SCROLL: for r = top..bottom-1 in increasing order, row r becomes a"
            + " copy of row r+1; then row bottom becomes blank.");
        String[] regions = {"~[r", "~[1;2r", "~[2;5r", "~[5;6r", "~[1;5r", "~[2;6r"};
        String[] due = {"12345.", "1.2345", "0234.5", "01235.", "1234.5", "02345."};
        for (int i = 0; i < regions.length; i++) {
            PaneMultiplexer x = numbered();
            Expect.type(x, 0, regions[i] + "~[S");
            Expect.same("in " + regions[i], column(x), due[i]);
        }
        PaneMultiplexer wide = new PaneMultiplexer(24, 12);
        Expect.type(wide, 0, "x".repeat(287) + "~[1;2r~[12;24Hx~[r~[S");
        Expect.same("the greatest screen, to its last column", Expect.screen(wide, 0),
            ("x".repeat(24) + "/").repeat(11) + ".".repeat(24));
    }

    private static void scrollOfOneRow() {
        Expect.sentence("Parser: SCROLL: with top = bottom only row bottom becomes blank");
        PaneMultiplexer x = new PaneMultiplexer(8, 4);
        x.split(TB);
        Expect.type(x, 0, "abc\n");
        Expect.same("a pane of one row", Expect.screen(x, 0), "........");
        x.resizeHost(8, 6);
        Expect.type(x, 0, "~[1;1Habc~[2;1Hdef~[S");
        Expect.same("the kept region of one row", Expect.screen(x, 0), "......../def.....");
    }

    private static void scrollKeepsTheCursor() {
        Expect.sentence("Parser: SCROLL: The cursor does not move.");
        PaneMultiplexer x = numbered();
        Expect.type(x, 0, "~[3;4r");
        for (int line = 1; line <= 6; line++) {
            cursorAfter(x, "~[" + line + ";8H~[99S", (line - 1) + ",7");
        }
        cursorAfter(x, "~[4;8H\n", "3,7");
    }
}
