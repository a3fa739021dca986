/** What the document says of every reachable state: panes and borders share out the host's cells. */
final class Cover {
    private Cover() {
    }

    static void everyCell(String call, PaneMultiplexer x) {
        int width = x.hostSize(PaneMultiplexer.RECT_W);
        int height = x.hostSize(PaneMultiplexer.RECT_H);
        int[] covered = new int[width * height];
        int area = 0;
        for (int id = 0; id < PaneMultiplexer.MAX_PANES; id++) {
            int w = x.paneRect(id, PaneMultiplexer.RECT_W);
            int h = x.paneRect(id, PaneMultiplexer.RECT_H);
            if (w != -1) {
                Expect.same("least size after " + call, w >= 1 && h >= 1, true);
                area += w * h;
                cover(covered, width, x, id);
            }
        }
        int borders = 0;
        for (int i = 0; i < covered.length; i++) {
            char c = x.hostChar(i / width, i % width);
            boolean border = x.hostOwner(i / width, i % width) == PaneMultiplexer.OWNER_BORDER;
            borders += border ? 1 : 0;
            if (covered[i] != (border ? 0 : 1) || c < 32 || c > 126 || border && c != '|' && c != '-') {
                Expect.same("cell " + i + " after " + call, covered[i], border ? 0 : 1);
                Expect.same("char of cell " + i + " after " + call, c, -1);
            }
        }
        Expect.same("border cells after " + call, borders, width * height - area);
    }

    private static void cover(int[] covered, int width, PaneMultiplexer x, int id) {
        int left = x.paneRect(id, PaneMultiplexer.RECT_X);
        int top = x.paneRect(id, PaneMultiplexer.RECT_Y);
        for (int r = 0; r < x.paneRect(id, PaneMultiplexer.RECT_H); r++) {
            for (int c = 0; c < x.paneRect(id, PaneMultiplexer.RECT_W); c++) {
                covered[(top + r) * width + left + c]++;
            }
        }
    }
}
