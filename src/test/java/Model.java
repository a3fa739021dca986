import java.util.ArrayList;
import java.util.Arrays;
import java.util.List;

/** The document told a second time, with objects and recursion, to compare the class with. */
final class Model {
    private static final int LR = PaneMultiplexer.LEFT_RIGHT;

    private static final class Pane {
        int id;
        int x;
        int y;
        char[][] screen;
        int row;
        int col;
        int top;
        int bottom;
        int mode;
        int p1;
        int p2;
        int k;

        int w() {
            return screen[0].length;
        }

        int h() {
            return screen.length;
        }
    }

    private static final class Node {
        Pane pane;
        int orient;
        int share;
        Node first;
        Node second;
    }

    private int width;
    private int height;
    private Node root = new Node();
    private Pane focused = new Pane();
    private char[][] borders;

    Model(int width, int height) {
        this.width = between(8, width, 24);
        this.height = between(4, height, 12);
        root.pane = focused;
        layOut();
    }

    private static int between(int least, int value, int greatest) {
        return Math.max(least, Math.min(greatest, value));
    }

    private static char[][] blank(int w, int h) {
        char[][] screen = new char[h][w];
        for (char[] line : screen) {
            Arrays.fill(line, ' ');
        }
        return screen;
    }

    private static List<Pane> leaves(Node node) {
        List<Pane> panes = new ArrayList<>();
        if (node.pane != null) {
            panes.add(node.pane);
        } else {
            panes.addAll(leaves(node.first));
            panes.addAll(leaves(node.second));
        }
        return panes;
    }

    private Pane find(int id) {
        for (Pane pane : leaves(root)) {
            if (pane.id == id) {
                return pane;
            }
        }
        return null;
    }

    /** The nodes from the root down to the pane's leaf. */
    private static List<Node> path(Node node, Pane pane) {
        List<Node> nodes = new ArrayList<>();
        if (leaves(node).contains(pane)) {
            nodes.add(node);
            if (node.pane == null) {
                nodes.addAll(path(node.first, pane));
                nodes.addAll(path(node.second, pane));
            }
        }
        return nodes;
    }

    private static int least(Node node, int orient) {
        if (node.pane != null) {
            return 1;
        }
        int a = least(node.first, orient);
        int b = least(node.second, orient);
        return node.orient == orient ? a + 1 + b : Math.max(a, b);
    }

    private void layOut() {
        borders = blank(width, height);
        place(root, 0, 0, width, height);
    }

    private void place(Node node, int x, int y, int w, int h) {
        if (node.pane != null) {
            fit(node.pane, w, h);
            node.pane.x = x;
            node.pane.y = y;
            return;
        }
        int n = node.orient == LR ? w : h;
        int v = (n - 1) * node.share / 100;
        if (v < least(node.first, node.orient)) {
            v = least(node.first, node.orient);
        }
        if (v > n - 1 - least(node.second, node.orient)) {
            v = n - 1 - least(node.second, node.orient);
        }
        if (node.orient == LR) {
            for (int r = y; r < y + h; r++) {
                borders[r][x + v] = '|';
            }
            place(node.first, x, y, v, h);
            place(node.second, x + v + 1, y, w - v - 1, h);
        } else {
            for (int c = x; c < x + w; c++) {
                borders[y + v][c] = '-';
            }
            place(node.first, x, y, w, v);
            place(node.second, x, y + v + 1, w, h - v - 1);
        }
    }

    private static void fit(Pane p, int w, int h) {
        char[][] fitted = blank(w, h);
        if (p.screen == null) {
            p.screen = fitted;
            p.bottom = h - 1;
            return;
        }
        for (int r = 0; r < Math.min(h, p.h()); r++) {
            for (int c = 0; c < Math.min(w, p.w()); c++) {
                fitted[r][c] = p.screen[r][c];
            }
        }
        p.screen = fitted;
        p.row = Math.min(p.row, h - 1);
        p.col = Math.min(p.col, w - 1);
        if (p.bottom > h - 1) {
            p.top = 0;
            p.bottom = h - 1;
        }
    }

    int split(int orient) {
        if (orient != 1 && orient != 2 || leaves(root).size() == 8
            || (orient == LR ? focused.w() : focused.h()) < 3) {
            return -1;
        }
        List<Node> path = path(root, focused);
        Node node = path.get(path.size() - 1);
        Pane made = new Pane();
        while (find(made.id) != null) {
            made.id++;
        }
        node.first = new Node();
        node.first.pane = focused;
        node.second = new Node();
        node.second.pane = made;
        node.pane = null;
        node.orient = orient;
        node.share = 50;
        layOut();
        focused = made;
        return made.id;
    }

    boolean close() {
        List<Node> path = path(root, focused);
        if (path.size() == 1) {
            return false;
        }
        Node up = path.get(path.size() - 2);
        Node sibling = up.first.pane == focused ? up.second : up.first;
        up.pane = sibling.pane;
        up.orient = sibling.orient;
        up.share = sibling.share;
        up.first = sibling.first;
        up.second = sibling.second;
        focused = leaves(up).get(0);
        layOut();
        return true;
    }

    boolean focus(int id) {
        Pane pane = find(id);
        if (pane == null) {
            return false;
        }
        focused = pane;
        return true;
    }

    int focusNext() {
        List<Pane> panes = leaves(root);
        focused = panes.get((panes.indexOf(focused) + 1) % panes.size());
        return focused.id;
    }

    boolean setShare(int orient, int percent) {
        Node nearest = null;
        for (Node node : path(root, focused)) {
            if (node.pane == null && node.orient == orient) {
                nearest = node;
            }
        }
        if (nearest == null) {
            return false;
        }
        nearest.share = between(1, percent, 99);
        layOut();
        return true;
    }

    boolean resizeHost(int newWidth, int newHeight) {
        int w = between(8, newWidth, 24);
        int h = between(4, newHeight, 12);
        if (w < least(root, LR) || h < least(root, PaneMultiplexer.TOP_BOTTOM)) {
            return false;
        }
        width = w;
        height = h;
        layOut();
        return true;
    }

    boolean feed(int id, int b) {
        Pane p = find(id);
        if (p == null) {
            return false;
        }
        int c = Math.floorMod(b, 256);
        if (p.mode == 0) {
            ground(p, c);
        } else if (p.mode == 1) {
            p.mode = c == '[' ? 2 : 0;
            if (c == '[') {
                p.p1 = p.p2 = p.k = 0;
            }
        } else if (Character.isDigit(c)) {
            p.p1 = p.k == 0 ? Math.min(99, p.p1 * 10 + c - '0') : p.p1;
            p.p2 = p.k == 1 ? Math.min(99, p.p2 * 10 + c - '0') : p.p2;
        } else if (c == ';') {
            p.k = Math.min(2, p.k + 1);
        } else {
            p.mode = 0;
            finish(p, c);
        }
        return true;
    }

    private static void ground(Pane p, int c) {
        if (c >= 32 && c <= 126) {
            p.screen[p.row][p.col++] = (char) c;
            if (p.col == p.w()) {
                p.col = 0;
                lineFeed(p);
            }
        } else if (c == '\n') {
            lineFeed(p);
        } else if (c == '\r') {
            p.col = 0;
        } else if (c == '\b' && p.col > 0) {
            p.col--;
        } else if (c == 27) {
            p.mode = 1;
        }
    }

    private static void lineFeed(Pane p) {
        if (p.row == p.bottom) {
            scroll(p);
        } else if (p.row < p.h() - 1) {
            p.row++;
        }
    }

    private static void scroll(Pane p) {
        for (int r = p.top; r < p.bottom; r++) {
            p.screen[r] = p.screen[r + 1].clone();
        }
        Arrays.fill(p.screen[p.bottom], ' ');
    }

    private static void finish(Pane p, int c) {
        int n1 = Math.max(1, p.p1);
        int n2 = Math.max(1, p.p2);
        switch (c) {
            case 'A' -> p.row = Math.max(0, p.row - n1);
            case 'B' -> p.row = Math.min(p.h() - 1, p.row + n1);
            case 'C' -> p.col = Math.min(p.w() - 1, p.col + n1);
            case 'D' -> p.col = Math.max(0, p.col - n1);
            case 'H' -> {
                p.row = Math.min(p.h() - 1, n1 - 1);
                p.col = Math.min(p.w() - 1, n2 - 1);
            }
            case 'J' -> p.screen = blank(p.w(), p.h());
            case 'K' -> Arrays.fill(p.screen[p.row], p.col, p.w(), ' ');
            case 'S' -> {
                for (int i = 0; i < n1; i++) {
                    scroll(p);
                }
            }
            case 'r' -> {
                int bb = p.p2 > 0 ? Math.min(p.p2, p.h()) : p.h();
                if (n1 < bb) {
                    p.top = n1 - 1;
                    p.bottom = bb - 1;
                    p.row = 0;
                    p.col = 0;
                }
            }
            default -> { }
        }
    }

    /** In the form of Expect.all. */
    String all() {
        StringBuilder text = new StringBuilder("host " + width + "x" + height + " focused "
            + focused.id + " count " + leaves(root).size() + "\n");
        char[][] host = borders;
        char[][] owners = new char[height][width];
        for (char[] line : owners) {
            Arrays.fill(line, 'b');
        }
        char[][] shown = new char[height][];
        for (int r = 0; r < height; r++) {
            shown[r] = host[r].clone();
        }
        for (int id = 0; id < 8; id++) {
            Pane p = find(id);
            text.append(p == null ? id + " [-1,-1,-1,-1] -1,-1 -1,-1 -1,-1,-1,-1 " : told(p)).append('\n');
            if (p != null) {
                for (int r = 0; r < p.h(); r++) {
                    for (int c = 0; c < p.w(); c++) {
                        owners[p.y + r][p.x + c] = (char) ('0' + id);
                        shown[p.y + r][p.x + c] = p.screen[r][c];
                    }
                }
            }
        }
        return text + joined(owners) + "\n" + joined(shown);
    }

    private static String told(Pane p) {
        return p.id + " [" + p.x + "," + p.y + "," + p.w() + "," + p.h() + "] " + p.row + "," + p.col
            + " " + p.top + "," + p.bottom + " " + p.mode + "," + p.p1 + "," + p.p2 + "," + p.k + " "
            + joined(p.screen);
    }

    private static String joined(char[][] lines) {
        StringBuilder text = new StringBuilder();
        for (char[] line : lines) {
            text.append(text.length() == 0 ? "" : "/").append(new String(line).replace(' ', '.'));
        }
        return text.toString();
    }
}
