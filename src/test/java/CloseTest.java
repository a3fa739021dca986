/** Promise 4. */
public final class CloseTest {
    private static final int LR = PaneMultiplexer.LEFT_RIGHT;
    private static final int TB = PaneMultiplexer.TOP_BOTTOM;

    public static void main(String[] args) {
        lastPaneStays();
        siblingTakesTheRoot();
        siblingTakesTheParentsPlace();
        siblingSubtreeKeepsItsShape();
        focusGoesToTheFirstLeaf();
        panesAreFitted();
        idsStopBeingLive();
        downToOne();
        splitsCanBeMadeAgain();
        Expect.finish();
    }

    private static void lastPaneStays() {
        PaneMultiplexer x = new PaneMultiplexer(8, 4);
        Expect.type(x, 0, "abc~[3;4");
        String before = Expect.all(x);
        Expect.same("close the only pane", x.close(), false);
        Expect.same("nothing changed", Expect.all(x), before);
        x.split(LR);
        x.focus(0);
        Expect.same("close 0", x.close(), true);
        before = Expect.all(x);
        Expect.same("close the only pane, 1", x.close(), false);
        Expect.same("nothing changed again", Expect.all(x), before);
        Expect.same("pane 1 is left", x.focused(), 1);
    }

    private static void siblingTakesTheRoot() {
        PaneMultiplexer x = new PaneMultiplexer(10, 4);
        x.split(LR);
        Expect.type(x, 0, "left");
        Expect.same("close the second", x.close(), true);
        Expect.same("count", x.paneCount(), 1);
        Expect.same("focused", x.focused(), 0);
        Expect.same("whole host", Expect.host(x), "left....../........../........../..........");
        x.split(TB);
        x.focus(0);
        Expect.type(x, 1, "below");
        Expect.same("close the first", x.close(), true);
        Expect.same("focused", x.focused(), 1);
        Expect.same("whole host again", Expect.host(x), "below...../........../........../..........");
    }

    private static void siblingTakesTheParentsPlace() {
        PaneMultiplexer x = new PaneMultiplexer(11, 5);
        x.split(LR);
        x.split(TB);
        x.split(LR);
        Expect.same("before", Expect.owners(x),
            "00000b11111/00000b11111/00000bbbbbb/00000b22b33/00000b22b33");
        x.focus(1);
        Expect.same("close 1", x.close(), true);
        Expect.same("split of 2 and 3 moves up", Expect.owners(x),
            ("/00000b22b33").repeat(5).substring(1));
        Expect.same("focused", x.focused(), 2);
        x.focus(0);
        Expect.same("close 0", x.close(), true);
        Expect.same("split of 2 and 3 is root", Expect.owners(x),
            ("/22222b33333").repeat(5).substring(1));
    }

    private static void siblingSubtreeKeepsItsShape() {
        PaneMultiplexer x = new PaneMultiplexer(20, 10);
        x.split(LR);
        x.split(TB);
        x.setShare(TB, 80);
        x.focus(0);
        Expect.same("close 0", x.close(), true);
        Expect.same("share is kept", Expect.rect(x, 1) + " " + Expect.rect(x, 2),
            "0,0,20,7 0,8,20,2");
        Expect.same("no left-right ancestor is left", x.setShare(LR, 50), false);
        Expect.same("top-bottom is", x.setShare(TB, 50), true);
        Expect.same("now even", Expect.rect(x, 1), "0,0,20,4");
    }

    private static void focusGoesToTheFirstLeaf() {
        PaneMultiplexer x = new PaneMultiplexer(24, 12);
        x.split(LR);
        x.focus(0);
        x.split(TB);
        x.focus(0);
        x.split(LR);
        x.focus(1);
        Expect.same("close the right side", x.close(), true);
        Expect.same("first leaf of the left side", x.focused(), 0);
        x.focus(0);
        Expect.same("close 0", x.close(), true);
        Expect.same("its sibling leaf", x.focused(), 3);
        x.focus(2);
        Expect.same("split 2", x.split(TB), 0);
        x.focus(2);
        Expect.same("split 2 again", x.split(LR), 1);
        x.focus(3);
        Expect.same("close 3", x.close(), true);
        Expect.same("first leaf, not the least id", x.focused(), 2);
    }

    private static void panesAreFitted() {
        PaneMultiplexer x = new PaneMultiplexer(9, 5);
        Expect.type(x, 0, "abcdefghijkl");
        x.split(LR);
        Expect.type(x, 0, "~[2;4r~[2;2H~[6;7");
        Expect.same("close", x.close(), true);
        Expect.same("lost columns come back blank", Expect.screen(x, 0),
            "abcd...../jkl....../........./........./.........");
        Expect.same("cursor", Expect.cursor(x, 0), "1,1");
        Expect.same("region", Expect.region(x, 0), "1,3");
        Expect.same("parser", Expect.parser(x, 0), "2,6,7,1");
    }

    private static void idsStopBeingLive() {
        PaneMultiplexer x = new PaneMultiplexer(9, 5);
        x.split(LR);
        Expect.type(x, 1, "gone");
        Expect.same("close", x.close(), true);
        Expect.same("feed", x.feed(1, 65), false);
        Expect.same("focus", x.focus(1), false);
        Expect.same("rect", Expect.rect(x, 1), "-1,-1,-1,-1");
        Expect.same("state", Expect.cursor(x, 1), "-1,-1");
        Expect.same("char", x.paneChar(1, 0, 0), 0);
        Expect.same("owners", Expect.owners(x), ("/" + "0".repeat(9)).repeat(5).substring(1));
    }

    private static void splitsCanBeMadeAgain() {
        PaneMultiplexer x = new PaneMultiplexer(24, 12);
        for (int i = 0; i < 20; i++) {
            Expect.same("split again", x.split(i % 2 == 0 ? LR : TB), 1);
            Expect.same("close again", x.close(), true);
        }
        for (int i = 0; i < 7; i++) {
            Expect.same("split " + i, x.split(i % 2 == 0 ? LR : TB), i + 1);
        }
        Expect.same("host", Expect.host(x), "...........|............/".repeat(5)
            + "...........|------------/"
            + "...........|.....|....../".repeat(2) + "...........|.....|------/"
            + "...........|.....|..|.../" + "...........|.....|..|---/"
            + "...........|.....|..|.|.");
    }

    private static void downToOne() {
        for (int pick = 0; pick < 8; pick++) {
            PaneMultiplexer x = new PaneMultiplexer(24, 12);
            for (int i = 0; i < 7; i++) {
                x.focus(i / 2);
                x.split(i % 2 == 0 ? LR : TB);
            }
            for (int count = 8; count > 1; count--) {
                for (int i = 0; i < pick; i++) {
                    x.focusNext();
                }
                int gone = x.focused();
                Expect.same("close at " + count, x.close(), true);
                Expect.same("count", x.paneCount(), count - 1);
                Expect.same("gone", x.paneRect(gone, PaneMultiplexer.RECT_W), -1);
            }
            Expect.same("last one fills the host", Expect.rect(x, x.focused()), "0,0,24,12");
            Expect.same("and stays", x.close(), false);
        }
    }
}
