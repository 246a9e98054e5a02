/** Rectangles that lie in the field, in part outside of it, in whole outside, or have no place. */
public final class EdgesOfRectangles {
    private static final int LOW = Integer.MIN_VALUE;
    private static final int TOP = Integer.MAX_VALUE;

    private final Answers answers = new Answers();

    public static void main(String[] args) {
        EdgesOfRectangles test = new EdgesOfRectangles();
        test.firstAndLastPlaces();
        test.edgesOfATile();
        test.outsideInPart();
        test.outsideInPartByOnePlace();
        test.outsideInWhole();
        test.outsideInWholeFarOff();
        test.withoutPlaces();
        test.turned();
        test.allNumbers();
        test.anyTag();
        test.aPartOutsideTouchesNoMore();
        test.comesByEachTile();
        test.answers.end();
    }

    /** Tiles 0 1 2 above 3 4 5; those at the right are 8 places wide, those below 4 high. */
    private static TileBins sixTiles() {
        TileBins bins = new TileBins();
        bins.field(40, 20, 16, 500);
        return bins;
    }

    /** Puts x0, y0, x1, y1; due are the rectangle in the field, and then the tiles touched. */
    private void puts(int[] given, int[] kept, int... tiles) {
        TileBins bins = sixTiles();
        String call = "put" + java.util.Arrays.toString(given);
        answers.same(call, bins.put(given[0], given[1], given[2], given[3], 9), 0);
        answers.partsOfItem(call, bins, 0, kept[0], kept[1], kept[2], kept[3], 9, tiles.length);
        answers.same(call + ": count(1)", bins.count(1), tiles.length);
        for (int tile = 0; tile < 6; tile++) {
            boolean touched = false;
            for (int one : tiles) {
                touched |= one == tile;
            }
            answers.same(call + ": tile(" + tile + ", 4)", bins.tile(tile, 4), touched ? 1 : 0);
            answers.same(call + ": open(" + tile + ")", bins.open(tile), touched ? 1 : 0);
            answers.same(call + ": next()", bins.next(), touched ? 0 : TileBins.NONE);
        }
    }

    private void putsOutside(int x0, int y0, int x1, int y1) {
        puts(rectangle(x0, y0, x1, y1), rectangle(0, 0, 0, 0));
    }

    private static int[] rectangle(int x0, int y0, int x1, int y1) {
        return new int[] {x0, y0, x1, y1};
    }

    private void putsInside(int x0, int y0, int x1, int y1, int... tiles) {
        puts(rectangle(x0, y0, x1, y1), rectangle(x0, y0, x1, y1), tiles);
    }

    private void firstAndLastPlaces() {
        answers.sentence("a rectangle of places x0 <= x < x1, y0 <= y < y1 (one place)");
        putsInside(0, 0, 1, 1, 0);
        putsInside(39, 0, 40, 1, 2);
        putsInside(0, 19, 1, 20, 3);
        putsInside(39, 19, 40, 20, 5);
        putsInside(0, 0, 40, 20, 0, 1, 2, 3, 4, 5);
    }

    private void edgesOfATile() {
        answers.sentence("An item TOUCHES a tile if a place of the field is in both");
        putsInside(16, 0, 32, 16, 1);
        putsInside(15, 0, 32, 16, 0, 1);
        putsInside(16, 0, 33, 16, 1, 2);
        putsInside(16, 0, 32, 17, 1, 4);
        putsInside(15, 15, 16, 16, 0);
        putsInside(15, 15, 17, 16, 0, 1);
        putsInside(15, 15, 16, 17, 0, 3);
        putsInside(15, 15, 17, 17, 0, 1, 3, 4);
        putsInside(16, 16, 17, 17, 4);
        putsInside(31, 16, 32, 17, 4);
        putsInside(32, 15, 33, 16, 2);
    }

    private void outsideInPart() {
        answers.sentence("x0, y0, x1, y1 of what of its rectangle is in the field");
        puts(rectangle(-7, 3, 2, 5), rectangle(0, 3, 2, 5), 0);
        puts(rectangle(3, -7, 5, 2), rectangle(3, 0, 5, 2), 0);
        puts(rectangle(35, 3, 47, 5), rectangle(35, 3, 40, 5), 2);
        puts(rectangle(3, 18, 5, 29), rectangle(3, 18, 5, 20), 3);
        puts(rectangle(-7, -7, 2, 2), rectangle(0, 0, 2, 2), 0);
        puts(rectangle(35, -7, 47, 2), rectangle(35, 0, 40, 2), 2);
        puts(rectangle(-7, 18, 2, 29), rectangle(0, 18, 2, 20), 3);
        puts(rectangle(35, 18, 47, 29), rectangle(35, 18, 40, 20), 5);
        puts(rectangle(-7, 3, 47, 5), rectangle(0, 3, 40, 5), 0, 1, 2);
        puts(rectangle(3, -7, 5, 29), rectangle(3, 0, 5, 20), 0, 3);
        puts(rectangle(-7, -7, 47, 29), rectangle(0, 0, 40, 20), 0, 1, 2, 3, 4, 5);
    }

    private void outsideInPartByOnePlace() {
        answers.sentence("x0, y0, x1, y1 of what of its rectangle is in the field (by one place)");
        puts(rectangle(-1, -1, 1, 1), rectangle(0, 0, 1, 1), 0);
        puts(rectangle(39, -1, 41, 1), rectangle(39, 0, 40, 1), 2);
        puts(rectangle(-1, 19, 1, 21), rectangle(0, 19, 1, 20), 3);
        puts(rectangle(39, 19, 41, 21), rectangle(39, 19, 40, 20), 5);
        puts(rectangle(-1, 0, 40, 20), rectangle(0, 0, 40, 20), 0, 1, 2, 3, 4, 5);
        puts(rectangle(0, -1, 40, 20), rectangle(0, 0, 40, 20), 0, 1, 2, 3, 4, 5);
        puts(rectangle(0, 0, 41, 20), rectangle(0, 0, 40, 20), 0, 1, 2, 3, 4, 5);
        puts(rectangle(0, 0, 40, 21), rectangle(0, 0, 40, 20), 0, 1, 2, 3, 4, 5);
    }

    private void outsideInWhole() {
        answers.sentence("all 0 if nothing is (just outside)");
        putsOutside(-1, 0, 0, 20);
        putsOutside(40, 0, 41, 20);
        putsOutside(0, -1, 40, 0);
        putsOutside(0, 20, 40, 21);
        putsOutside(-1, -1, 0, 0);
        putsOutside(40, -1, 41, 0);
        putsOutside(-1, 20, 0, 21);
        putsOutside(40, 20, 41, 21);
        putsOutside(40, 20, 48, 32);
    }

    private void outsideInWholeFarOff() {
        answers.sentence("all 0 if nothing is (far off)");
        putsOutside(LOW, LOW, LOW + 1, LOW + 1);
        putsOutside(TOP - 1, TOP - 1, TOP, TOP);
        putsOutside(LOW, 0, 0, 20);
        putsOutside(0, LOW, 40, 0);
        putsOutside(40, 0, TOP, 20);
        putsOutside(0, 20, 40, TOP);
        putsOutside(LOW, 0, LOW + 10, 20);
        putsOutside(LOW, 20, TOP, TOP);
        putsOutside(40, LOW, TOP, TOP);
    }

    private void withoutPlaces() {
        answers.sentence("An item that touches no tile is taken, too (it has no places)");
        putsOutside(0, 0, 0, 0);
        putsOutside(5, 5, 5, 5);
        putsOutside(5, 5, 5, 9);
        putsOutside(5, 5, 9, 5);
        putsOutside(16, 0, 16, 20);
        putsOutside(0, 16, 40, 16);
        putsOutside(40, 20, 40, 20);
        putsOutside(LOW, LOW, LOW, LOW);
        putsOutside(TOP, TOP, TOP, TOP);
        putsOutside(LOW, 7, TOP, 7);
        putsOutside(7, LOW, 7, TOP);
    }

    private void turned() {
        answers.sentence("a rectangle of places x0 <= x < x1, y0 <= y < y1 (turned: no place)");
        putsOutside(6, 5, 5, 9);
        putsOutside(5, 9, 9, 8);
        putsOutside(9, 9, 5, 5);
        putsOutside(40, 0, 0, 20);
        putsOutside(0, 20, 40, 0);
        putsOutside(47, 3, -7, 5);
        putsOutside(TOP, 0, LOW, 20);
        putsOutside(0, TOP, 40, LOW);
        putsOutside(TOP, TOP, LOW, LOW);
    }

    // The width of these is more than an int can hold.
    private void allNumbers() {
        answers.sentence("x0, y0, x1, y1 of what of its rectangle is in the field (all numbers)");
        puts(rectangle(LOW, LOW, TOP, TOP), rectangle(0, 0, 40, 20), 0, 1, 2, 3, 4, 5);
        puts(rectangle(LOW, 3, TOP, 4), rectangle(0, 3, 40, 4), 0, 1, 2);
        puts(rectangle(3, LOW, 4, TOP), rectangle(3, 0, 4, 20), 0, 3);
        puts(rectangle(LOW, LOW, 1, 1), rectangle(0, 0, 1, 1), 0);
        puts(rectangle(39, 19, TOP, TOP), rectangle(39, 19, 40, 20), 5);
    }

    private void anyTag() {
        answers.sentence("a TAG (any number)");
        TileBins bins = sixTiles();
        int[] tags = {0, 1, -1, LOW, LOW + 1, TOP, TOP - 1, 1, 1};
        for (int n = 0; n < tags.length; n++) {
            int outside = n % 2 * 100;
            answers.same("put", bins.put(outside, 0, outside + 1, 1, tags[n]), n);
        }
        for (int n = 0; n < tags.length; n++) {
            answers.same("item(" + n + ", 4)", bins.item(n, 4), tags[n]);
        }
    }

    private void aPartOutsideTouchesNoMore() {
        answers.sentence("4 its tag, 5 how many tiles it touches (some of it outside)");
        TileBins bins = new TileBins();
        bins.put(0, 0, 64, 64, 1);
        answers.partsOfItem("one place", bins, 0, 0, 0, 1, 1, 1, 1);
        bins.field(8, 8, 8, 9);
        bins.put(-8, -8, 16, 16, 2);
        answers.partsOfItem("one tile", bins, 0, 0, 0, 8, 8, 2, 1);
        bins.field(9, 8, 8, 9);
        bins.put(7, -8, 99, 16, 3);
        answers.partsOfItem("two tiles", bins, 0, 7, 0, 9, 8, 3, 2);
    }

    private void comesByEachTile() {
        answers.sentence("An item can come more often than once: by each tile that it touches");
        TileBins bins = sixTiles();
        bins.put(15, 15, 17, 17, 1);
        bins.put(17, 0, 40, 1, 2);
        bins.put(-5, 0, 99, 1, 3);
        int[][] due = {{0, 2}, {0, 1, 2}, {1, 2}, {0}, {0}, {}};
        for (int again = 0; again < 2; again++) {
            for (int tile = 5; tile >= 0; tile--) {
                answers.same("open(" + tile + ")", bins.open(tile), due[tile].length);
                answers.comes("tile " + tile, bins, due[tile]);
            }
        }
    }
}
