import java.util.Arrays;

/**
 * Puts rectangles into the tiles that they touch, in the order in which they came, and gives them
 * out tile by tile.
 *
 * <p>No list is kept for a tile: whether an item touches a tile is read from the item's rectangle
 * each time. So a field costs nothing for its tiles, and a cell of the store is only counted.
 */
public final class TileBins {
    public static final int NONE = -1;

    private static final int MAX_LENGTH = 1024;
    private static final int MAX_CELLS = 8192;
    private static final int MAX_ITEMS = 4096;

    // An item's numbers stand side by side in one row, in the order in which item() names them.
    private static final int X0 = 0;
    private static final int Y0 = 1;
    private static final int X1 = 2;
    private static final int Y1 = 3;
    private static final int TAG = 4;
    private static final int TOUCHED = 5;
    private static final int PARTS = 6;

    // Doubled eight times, this is MAX_ITEMS: most objects never need the room for all of them.
    private static final int FIRST_ITEMS = 16;

    private int wide;
    private int high;
    // A side is held as its power of two, so that a place's tile is found without a divisor.
    private int shift;
    private int columns;
    private int lines;
    private int cells;

    private int[] parts;
    private int items;
    private int taken;

    private int opened;
    // The first item that next() has not looked at yet; a later put comes at or behind it.
    private int ahead;

    public TileBins() {
        parts = new int[FIRST_ITEMS * PARTS];
        layOut(1, 1, 3, 64);
    }

    public int field(int wide, int high, int side, int cells) throws IllegalArgumentException {
        if (!isWithin(wide, 1, MAX_LENGTH) || !isWithin(high, 1, MAX_LENGTH)) {
            throw new IllegalArgumentException("a field is 1 to 1024 places wide and high");
        }
        int power = powerOf(side);
        if (power == NONE) {
            throw new IllegalArgumentException("a side is 8, 16, 32 or 64");
        }
        if (!isWithin(cells, 1, MAX_CELLS)) {
            throw new IllegalArgumentException("a store has 1 to 8192 cells");
        }
        layOut(wide, high, power, cells);
        return tilesInAll();
    }

    public int put(int x0, int y0, int x1, int y1, int tag) throws IllegalStateException {
        int left = Math.max(x0, 0);
        int top = Math.max(y0, 0);
        int right = Math.min(x1, wide);
        int bottom = Math.min(y1, high);
        boolean inField = left < right && top < bottom;
        int touched = inField ? tilesAcross(left, right) * tilesAcross(top, bottom) : 0;
        if (items >= MAX_ITEMS || touched > cells - taken) {
            throw new IllegalStateException("the field is full");
        }
        makeRoom();
        int at = items * PARTS;
        parts[at + X0] = inField ? left : 0;
        parts[at + Y0] = inField ? top : 0;
        parts[at + X1] = inField ? right : 0;
        parts[at + Y1] = inField ? bottom : 0;
        parts[at + TAG] = tag;
        parts[at + TOUCHED] = touched;
        items++;
        taken += touched;
        return items - 1;
    }

    public void empty() {
        takeAllOut();
    }

    public int open(int tile) throws IllegalArgumentException {
        if (!isTile(tile)) {
            throw new IllegalArgumentException("there is no such tile");
        }
        opened = tile;
        ahead = 0;
        return itemsTouching(tile);
    }

    public int next() throws IllegalStateException {
        if (opened == NONE) {
            throw new IllegalStateException("no tile is open");
        }
        int found = firstTouching(opened, ahead);
        ahead = found == NONE ? items : found + 1;
        return found;
    }

    public int item(int n, int what) throws IndexOutOfBoundsException, IllegalArgumentException {
        if (n < 0 || n >= items) {
            throw new IndexOutOfBoundsException("there is no such item");
        }
        if (what < 0 || what >= PARTS) {
            throw new IllegalArgumentException("of an item there is 0 to 5");
        }
        return parts[n * PARTS + what];
    }

    public int tile(int n, int what) throws IllegalArgumentException {
        if (!isTile(n)) {
            throw new IllegalArgumentException("there is no such tile");
        }
        switch (what) {
            case 0:
                return leftOf(n);
            case 1:
                return topOf(n);
            case 2:
                return Math.min(leftOf(n) + sideLength(), wide);
            case 3:
                return Math.min(topOf(n) + sideLength(), high);
            case 4:
                return itemsTouching(n);
            default:
                throw new IllegalArgumentException("of a tile there is 0 to 4");
        }
    }

    public int tileOf(int x, int y) throws IllegalArgumentException {
        if (x < 0 || x >= wide || y < 0 || y >= high) {
            throw new IllegalArgumentException("the place is not in the field");
        }
        return (y >> shift) * columns + (x >> shift);
    }

    public int count(int what) throws IllegalArgumentException {
        switch (what) {
            case 0:
                return items;
            case 1:
                return taken;
            case 2:
                return cells;
            case 3:
                return tilesInAll();
            case 4:
                return opened;
            default:
                throw new IllegalArgumentException("there is a count of 0 to 4");
        }
    }

    private void layOut(int newWide, int newHigh, int newShift, int newCells) {
        wide = newWide;
        high = newHigh;
        shift = newShift;
        columns = tilesAcross(0, newWide);
        lines = tilesAcross(0, newHigh);
        cells = newCells;
        takeAllOut();
    }

    private void takeAllOut() {
        items = 0;
        taken = 0;
        opened = NONE;
        ahead = 0;
    }

    private void makeRoom() {
        if ((items + 1) * PARTS > parts.length) {
            parts = Arrays.copyOf(parts, 2 * parts.length);
        }
    }

    // Along one side of the field: the tiles that have a place of from .. to - 1.
    private int tilesAcross(int from, int to) {
        return ((to - 1) >> shift) - (from >> shift) + 1;
    }

    private int tilesInAll() {
        return columns * lines;
    }

    private boolean isTile(int n) {
        return n >= 0 && n < tilesInAll();
    }

    private int sideLength() {
        return 1 << shift;
    }

    private int leftOf(int tile) {
        return columns > 0 ? (tile % columns) << shift : 0;
    }

    private int topOf(int tile) {
        return columns > 0 ? (tile / columns) << shift : 0;
    }

    private int itemsTouching(int tile) {
        int left = leftOf(tile);
        int top = topOf(tile);
        int sum = 0;
        for (int n = 0; n < items; n++) {
            if (touches(n, left, top)) {
                sum++;
            }
        }
        return sum;
    }

    private int firstTouching(int tile, int from) {
        int left = leftOf(tile);
        int top = topOf(tile);
        for (int n = from; n < items; n++) {
            if (touches(n, left, top)) {
                return n;
            }
        }
        return NONE;
    }

    // The tile may be taken as a whole square even at the field's edge: an item's kept rectangle
    // ends there, and that of an item outside of the field (all 0) ends ahead of every tile.
    private boolean touches(int n, int left, int top) {
        int at = n * PARTS;
        return parts[at + X0] < left + sideLength() && left < parts[at + X1]
                && parts[at + Y0] < top + sideLength() && top < parts[at + Y1];
    }

    private static boolean isWithin(int number, int low, int top) {
        return number >= low && number <= top;
    }

    private static int powerOf(int side) {
        switch (side) {
            case 8:
                return 3;
            case 16:
                return 4;
            case 32:
                return 5;
            case 64:
                return 6;
            default:
                return NONE;
        }
    }
}
