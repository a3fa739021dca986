/**
 * A terminal multiplexer in miniature: a host screen divided by a binary split tree into panes,
 * each with its own character screen, cursor, scroll region and escape-sequence parser.
 */
public final class PaneMultiplexer {
    public static final int MAX_PANES = 8;
    public static final int MIN_WIDTH = 8;
    public static final int MAX_WIDTH = 24;
    public static final int MIN_HEIGHT = 4;
    public static final int MAX_HEIGHT = 12;
    public static final int LEFT_RIGHT = 1;
    public static final int TOP_BOTTOM = 2;
    public static final int RECT_X = 0;
    public static final int RECT_Y = 1;
    public static final int RECT_W = 2;
    public static final int RECT_H = 3;
    public static final int ST_ROW = 0;
    public static final int ST_COL = 1;
    public static final int ST_TOP = 2;
    public static final int ST_BOTTOM = 3;
    public static final int ST_MODE = 4;
    public static final int ST_P1 = 5;
    public static final int ST_P2 = 6;
    public static final int ST_INDEX = 7;
    public static final int MODE_GROUND = 0;
    public static final int MODE_ESCAPE = 1;
    public static final int MODE_CSI = 2;
    public static final int OWNER_BORDER = -1;
    public static final int OWNER_OUTSIDE = -2;

    private static final int NONE = -1;
    private static final int LEAF = 0;
    private static final int NEW_SHARE = 50;
    private static final int MIN_SHARE = 1;
    private static final int MAX_SHARE = 99;
    private static final int MAX_PARAM = 99;
    private static final int MAX_PARAM_INDEX = 2;

    private static final int BACKSPACE = 8;
    private static final int LINE_FEED = 10;
    private static final int CARRIAGE_RETURN = 13;
    private static final int ESCAPE = 27;
    private static final int BLANK = 32;
    private static final int LAST_PRINTABLE = 126;
    private static final int FIRST_FINAL = 64;
    private static final int LAST_FINAL = 126;

    private static final int MAX_NODES = 2 * MAX_PANES - 1;
    private static final int PANE_CELLS = MAX_WIDTH * MAX_HEIGHT;
    private static final int ALL_CELLS = MAX_PANES * PANE_CELLS;

    private int hostWidth;
    private int hostHeight;
    private int root;
    private int focusedPane;
    private int liveCount;

    // The leaf of pane id is always node id, and splits are the nodes from MAX_PANES on, so that a
    // leaf needs no link to its pane. A node that is a leaf or unused has the orientation LEAF.
    private final int[] parent = new int[MAX_NODES];
    private final int[] first = new int[MAX_NODES];
    private final int[] second = new int[MAX_NODES];
    private final int[] orientation = new int[MAX_NODES];
    private final int[] share = new int[MAX_NODES];
    private final int[] leastWidth = new int[MAX_NODES];
    private final int[] leastHeight = new int[MAX_NODES];
    private final int[] rectX = new int[MAX_NODES];
    private final int[] rectY = new int[MAX_NODES];
    private final int[] rectW = new int[MAX_NODES];
    private final int[] rectH = new int[MAX_NODES];
    private final int[] order = new int[MAX_NODES];

    // The screen's size is kept beside the rectangle's: during a new layout it is still the size
    // from before the call, which the resize rule needs.
    private final boolean[] live = new boolean[MAX_PANES];
    private final int[] screenWidth = new int[MAX_PANES];
    private final int[] screenHeight = new int[MAX_PANES];
    private final int[] cursorRow = new int[MAX_PANES];
    private final int[] cursorCol = new int[MAX_PANES];
    private final int[] regionTop = new int[MAX_PANES];
    private final int[] regionBottom = new int[MAX_PANES];
    private final int[] parserMode = new int[MAX_PANES];
    private final int[] paramOne = new int[MAX_PANES];
    private final int[] paramTwo = new int[MAX_PANES];
    private final int[] paramIndex = new int[MAX_PANES];

    // Every screen has the greatest size, so that a resize moves no cell; the cells beyond a
    // screen's own size are blank.
    private final char[] cells = new char[ALL_CELLS];

    public PaneMultiplexer(int width, int height) {
        hostWidth = clamp(width, MIN_WIDTH, MAX_WIDTH);
        hostHeight = clamp(height, MIN_HEIGHT, MAX_HEIGHT);
        root = 0;
        parent[0] = NONE;
        layOut();
        startPane(0);
        focusedPane = 0;
    }

    public boolean feed(int id, int b) {
        if (!isLive(id)) {
            return false;
        }
        int octet = b & 255;
        if (parserMode[id] == MODE_GROUND) {
            feedGround(id, octet);
        } else if (parserMode[id] == MODE_ESCAPE) {
            feedEscape(id, octet);
        } else {
            feedSequence(id, octet);
        }
        return true;
    }

    public int split(int orient) {
        if (orient != LEFT_RIGHT && orient != TOP_BOTTOM) {
            return NONE;
        }
        int id = leastFreePane();
        if (id == NONE) {
            return NONE;
        }
        int room = orient == LEFT_RIGHT ? rectW[focusedPane] : rectH[focusedPane];
        if (room < 3) {
            return NONE;
        }
        int node = freeSplitNode();
        putInPlace(focusedPane, node);
        orientation[node] = orient;
        share[node] = NEW_SHARE;
        first[node] = focusedPane;
        second[node] = id;
        parent[focusedPane] = node;
        parent[id] = node;
        layOut();
        fitScreens();
        startPane(id);
        focusedPane = id;
        return id;
    }

    public boolean close() {
        int removed = parent[focusedPane];
        if (removed == NONE) {
            return false;
        }
        int sibling = first[removed] == focusedPane ? second[removed] : first[removed];
        putInPlace(removed, sibling);
        orientation[removed] = LEAF;
        live[focusedPane] = false;
        liveCount--;
        focusedPane = firstLeaf(sibling);
        layOut();
        fitScreens();
        return true;
    }

    public boolean focus(int id) {
        if (!isLive(id)) {
            return false;
        }
        focusedPane = id;
        return true;
    }

    public int focusNext() {
        int node = focusedPane;
        int up = parent[node];
        for (int i = 0; i < MAX_NODES && up != NONE && second[up] == node; i++) {
            node = up;
            up = parent[node];
        }
        int next = up == NONE ? root : second[up];
        focusedPane = firstLeaf(next);
        return focusedPane;
    }

    public boolean setShare(int orient, int percent) {
        if (orient != LEFT_RIGHT && orient != TOP_BOTTOM) {
            return false;
        }
        int node = parent[focusedPane];
        for (int i = 0; i < MAX_NODES && node != NONE && orientation[node] != orient; i++) {
            node = parent[node];
        }
        if (node == NONE) {
            return false;
        }
        share[node] = clamp(percent, MIN_SHARE, MAX_SHARE);
        layOut();
        fitScreens();
        return true;
    }

    public boolean resizeHost(int width, int height) {
        int newWidth = clamp(width, MIN_WIDTH, MAX_WIDTH);
        int newHeight = clamp(height, MIN_HEIGHT, MAX_HEIGHT);
        if (newWidth < leastWidth[root] || newHeight < leastHeight[root]) {
            return false;
        }
        hostWidth = newWidth;
        hostHeight = newHeight;
        layOut();
        fitScreens();
        return true;
    }

    public int focused() {
        return focusedPane;
    }

    public int paneCount() {
        return liveCount;
    }

    public int paneRect(int id, int part) {
        if (!isLive(id)) {
            return -1;
        }
        switch (part) {
            case RECT_X: return rectX[id];
            case RECT_Y: return rectY[id];
            case RECT_W: return rectW[id];
            case RECT_H: return rectH[id];
            default: return -1;
        }
    }

    public int paneState(int id, int part) {
        if (!isLive(id)) {
            return -1;
        }
        switch (part) {
            case ST_ROW: return cursorRow[id];
            case ST_COL: return cursorCol[id];
            case ST_TOP: return regionTop[id];
            case ST_BOTTOM: return regionBottom[id];
            case ST_MODE: return parserMode[id];
            case ST_P1: return paramOne[id];
            case ST_P2: return paramTwo[id];
            case ST_INDEX: return paramIndex[id];
            default: return -1;
        }
    }

    public char paneChar(int id, int row, int col) {
        if (!isLive(id)) {
            return 0;
        }
        if (row < 0 || row >= screenHeight[id] || col < 0 || col >= screenWidth[id]) {
            return 0;
        }
        return cells[cellIndex(id, row, col)];
    }

    public int hostOwner(int row, int col) {
        if (row < 0 || row >= hostHeight || col < 0 || col >= hostWidth) {
            return OWNER_OUTSIDE;
        }
        for (int id = 0; id < MAX_PANES; id++) {
            if (live[id] && isInside(id, row, col)) {
                return id;
            }
        }
        return OWNER_BORDER;
    }

    public char hostChar(int row, int col) {
        int owner = hostOwner(row, col);
        if (owner == OWNER_OUTSIDE) {
            return 0;
        }
        if (owner == OWNER_BORDER) {
            return borderChar(row, col);
        }
        return paneChar(owner, row - rectY[owner], col - rectX[owner]);
    }

    public int hostSize(int part) {
        switch (part) {
            case RECT_W: return hostWidth;
            case RECT_H: return hostHeight;
            default: return -1;
        }
    }

    private static int smaller(int a, int b) {
        return a < b ? a : b;
    }

    private static int larger(int a, int b) {
        return a > b ? a : b;
    }

    private static int clamp(int value, int least, int greatest) {
        if (value < least) {
            return least;
        }
        return smaller(value, greatest);
    }

    private static int orOne(int param) {
        return param > 0 ? param : 1;
    }

    private static int cellIndex(int id, int row, int col) {
        return id * PANE_CELLS + row * MAX_WIDTH + col;
    }

    private boolean isLive(int id) {
        return id >= 0 && id < MAX_PANES && live[id];
    }

    private boolean isInside(int node, int row, int col) {
        int x = rectX[node];
        int y = rectY[node];
        return row >= y && row < y + rectH[node] && col >= x && col < x + rectW[node];
    }

    // The cell is known to lie on some border: if no LEFT_RIGHT split has it, a TOP_BOTTOM one does.
    private char borderChar(int row, int col) {
        for (int node = MAX_PANES; node < MAX_NODES; node++) {
            if (orientation[node] == LEFT_RIGHT && isInside(node, row, col)) {
                int a = first[node];
                if (col == rectX[a] + rectW[a]) {
                    return '|';
                }
            }
        }
        return '-';
    }

    private int leastFreePane() {
        for (int id = 0; id < MAX_PANES; id++) {
            if (!live[id]) {
                return id;
            }
        }
        return NONE;
    }

    // Splits are one fewer than panes: while a pane is free, so is a split node, and the last one
    // needs no look.
    private int freeSplitNode() {
        for (int node = MAX_PANES; node < MAX_NODES - 1; node++) {
            if (orientation[node] == LEAF) {
                return node;
            }
        }
        return MAX_NODES - 1;
    }

    private void putInPlace(int oldNode, int newNode) {
        int up = parent[oldNode];
        parent[newNode] = up;
        if (up == NONE) {
            root = newNode;
        } else if (first[up] == oldNode) {
            first[up] = newNode;
        } else {
            second[up] = newNode;
        }
    }

    private int firstLeaf(int top) {
        int node = top;
        for (int i = 0; i < MAX_NODES && orientation[node] != LEAF; i++) {
            node = first[node];
        }
        return node;
    }

    private void startPane(int id) {
        live[id] = true;
        liveCount++;
        screenWidth[id] = rectW[id];
        screenHeight[id] = rectH[id];
        blankCells(id, 0, 0, MAX_HEIGHT, MAX_WIDTH);
        cursorRow[id] = 0;
        cursorCol[id] = 0;
        regionTop[id] = 0;
        regionBottom[id] = rectH[id] - 1;
        parserMode[id] = MODE_GROUND;
        paramOne[id] = 0;
        paramTwo[id] = 0;
        paramIndex[id] = 0;
    }

    private void layOut() {
        int count = orderNodes();
        // Least sizes come from the children up, rectangles from the root down.
        for (int i = count - 1; i >= 0; i--) {
            measureNode(order[i]);
        }
        rectX[root] = 0;
        rectY[root] = 0;
        rectW[root] = hostWidth;
        rectH[root] = hostHeight;
        for (int i = 0; i < count; i++) {
            placeChildren(order[i]);
        }
    }

    // Lists the nodes of the tree, each parent before its children, and answers how many there are.
    private int orderNodes() {
        order[0] = root;
        int count = 1;
        for (int i = 0; i < MAX_NODES && i < count; i++) {
            int node = order[i];
            if (orientation[node] != LEAF && count + 2 <= MAX_NODES) {
                order[count] = first[node];
                order[count + 1] = second[node];
                count += 2;
            }
        }
        return count;
    }

    private void measureNode(int node) {
        int a = first[node];
        int b = second[node];
        if (orientation[node] == LEFT_RIGHT) {
            leastWidth[node] = leastWidth[a] + 1 + leastWidth[b];
            leastHeight[node] = larger(leastHeight[a], leastHeight[b]);
        } else if (orientation[node] == TOP_BOTTOM) {
            leastWidth[node] = larger(leastWidth[a], leastWidth[b]);
            leastHeight[node] = leastHeight[a] + 1 + leastHeight[b];
        } else {
            leastWidth[node] = 1;
            leastHeight[node] = 1;
        }
    }

    private void placeChildren(int node) {
        int a = first[node];
        int b = second[node];
        int x = rectX[node];
        int y = rectY[node];
        int w = rectW[node];
        int h = rectH[node];
        if (orientation[node] == LEFT_RIGHT) {
            int v = firstExtent(w, share[node], leastWidth[a], leastWidth[b]);
            placeNode(a, x, y, v, h);
            placeNode(b, x + v + 1, y, w - v - 1, h);
        } else if (orientation[node] == TOP_BOTTOM) {
            int v = firstExtent(h, share[node], leastHeight[a], leastHeight[b]);
            placeNode(a, x, y, w, v);
            placeNode(b, x, y + v + 1, w, h - v - 1);
        }
    }

    private static int firstExtent(int extent, int percent, int leastFirst, int leastSecond) {
        int shared = ((extent - 1) * percent) / 100;
        int enough = larger(shared, leastFirst);
        return smaller(enough, extent - 1 - leastSecond);
    }

    private void placeNode(int node, int x, int y, int w, int h) {
        rectX[node] = x;
        rectY[node] = y;
        rectW[node] = w;
        rectH[node] = h;
    }

    private void fitScreens() {
        for (int id = 0; id < MAX_PANES; id++) {
            if (live[id]) {
                fitScreen(id);
            }
        }
    }

    private void fitScreen(int id) {
        int w = rectW[id];
        int h = rectH[id];
        int keptWidth = smaller(screenWidth[id], w);
        int keptHeight = smaller(screenHeight[id], h);
        blankCells(id, 0, keptWidth, MAX_HEIGHT, MAX_WIDTH);
        blankCells(id, keptHeight, 0, MAX_HEIGHT, MAX_WIDTH);
        screenWidth[id] = w;
        screenHeight[id] = h;
        cursorRow[id] = smaller(cursorRow[id], h - 1);
        cursorCol[id] = smaller(cursorCol[id], w - 1);
        if (regionBottom[id] > h - 1) {
            regionTop[id] = 0;
            regionBottom[id] = h - 1;
        }
    }

    private void blankCells(int id, int fromRow, int fromCol, int endRow, int endCol) {
        for (int row = fromRow; row < endRow; row++) {
            for (int col = fromCol; col < endCol; col++) {
                cells[cellIndex(id, row, col)] = BLANK;
            }
        }
    }

    private void feedGround(int id, int b) {
        if (b >= BLANK && b <= LAST_PRINTABLE) {
            printChar(id, b);
        } else if (b == LINE_FEED) {
            lineFeed(id);
        } else if (b == CARRIAGE_RETURN) {
            cursorCol[id] = 0;
        } else if (b == BACKSPACE) {
            cursorCol[id] = larger(0, cursorCol[id] - 1);
        } else if (b == ESCAPE) {
            parserMode[id] = MODE_ESCAPE;
        }
    }

    private void printChar(int id, int b) {
        cells[cellIndex(id, cursorRow[id], cursorCol[id])] = (char) b;
        cursorCol[id]++;
        if (cursorCol[id] == screenWidth[id]) {
            cursorCol[id] = 0;
            lineFeed(id);
        }
    }

    private void lineFeed(int id) {
        if (cursorRow[id] == regionBottom[id]) {
            scroll(id, 1);
        } else if (cursorRow[id] < screenHeight[id] - 1) {
            cursorRow[id]++;
        }
    }

    private void scroll(int id, int times) {
        int screen = id * PANE_CELLS;
        int start = screen + regionTop[id] * MAX_WIDTH;
        int last = screen + regionBottom[id] * MAX_WIDTH;
        for (int n = 0; n < times; n++) {
            for (int i = start; i < last; i++) {
                cells[i] = cells[i + MAX_WIDTH];
            }
            for (int i = last; i < last + MAX_WIDTH; i++) {
                cells[i] = BLANK;
            }
        }
    }

    private void feedEscape(int id, int b) {
        if (b == '[') {
            parserMode[id] = MODE_CSI;
            paramOne[id] = 0;
            paramTwo[id] = 0;
            paramIndex[id] = 0;
        } else {
            parserMode[id] = MODE_GROUND;
        }
    }

    private void feedSequence(int id, int b) {
        if (b >= '0' && b <= '9') {
            addDigit(id, b - '0');
        } else if (b == ';') {
            paramIndex[id] = smaller(MAX_PARAM_INDEX, paramIndex[id] + 1);
        } else {
            parserMode[id] = MODE_GROUND;
            if (b >= FIRST_FINAL && b <= LAST_FINAL) {
                runFinal(id, b);
            }
        }
    }

    private void addDigit(int id, int digit) {
        if (paramIndex[id] == 0) {
            paramOne[id] = smaller(MAX_PARAM, paramOne[id] * 10 + digit);
        } else if (paramIndex[id] == 1) {
            paramTwo[id] = smaller(MAX_PARAM, paramTwo[id] * 10 + digit);
        }
    }

    private void runFinal(int id, int b) {
        int n1 = orOne(paramOne[id]);
        int n2 = orOne(paramTwo[id]);
        int row = cursorRow[id];
        int col = cursorCol[id];
        int w = screenWidth[id];
        int h = screenHeight[id];
        switch (b) {
            case 'A':
                cursorRow[id] = larger(0, row - n1);
                break;
            case 'B':
                cursorRow[id] = smaller(h - 1, row + n1);
                break;
            case 'C':
                cursorCol[id] = smaller(w - 1, col + n1);
                break;
            case 'D':
                cursorCol[id] = larger(0, col - n1);
                break;
            case 'H':
                cursorRow[id] = smaller(h - 1, n1 - 1);
                cursorCol[id] = smaller(w - 1, n2 - 1);
                break;
            case 'J':
                blankCells(id, 0, 0, h, w);
                break;
            case 'K':
                blankCells(id, row, col, row + 1, w);
                break;
            case 'S':
                scroll(id, n1);
                break;
            case 'r':
                setRegion(id, n1);
                break;
            default:
                break;
        }
    }

    private void setRegion(int id, int firstLine) {
        int h = screenHeight[id];
        int lastLine = paramTwo[id] > 0 ? smaller(paramTwo[id], h) : h;
        if (firstLine < lastLine) {
            regionTop[id] = firstLine - 1;
            regionBottom[id] = lastLine - 1;
            cursorRow[id] = 0;
            cursorCol[id] = 0;
        }
    }
}
