/** The field that is full: by its cells, and by its items. */
public final class EdgesFull {
    private static final Class<IllegalStateException> FULL = IllegalStateException.class;

    public static void main(String[] args) {
        Answers answers = new Answers();
        oneCellTooFew(answers);
        justEnoughCells(answers);
        oneCellToSpare(answers);
        wholeOrNotAtAll(answers);
        cellsOfEveryItemCount(answers);
        oneCell(answers);
        mostCells(answers);
        oneFewerThanMostCells(answers);
        onlyTouchedTilesTakeCells(answers);
        itemThatTouchesNoTile(answers);
        wideItemThatTouchesNoTile(answers);
        cellsAreFreeAfterEmpty(answers);
        cellsAreFreeInANewField(answers);
        comingFreesNoCell(answers);
        fullAt4096Items(answers);
        answers.end();
    }

    private static TileBins sixTiles(int cells) {
        TileBins bins = new TileBins();
        bins.field(40, 20, 16, cells);
        return bins;
    }

    private static void oneCellTooFew(Answers answers) {
        answers.sentence("if there are not enough cells .. the field is FULL (one too few)");
        TileBins bins = sixTiles(5);
        answers.refusedUnchanged("put of 6 tiles", bins, FULL, () -> bins.put(0, 0, 40, 20, 1));
        answers.counts("nothing is taken", bins, 0, 0, 5, 6, TileBins.NONE);
    }

    private static void justEnoughCells(Answers answers) {
        answers.sentence("if there are not enough cells .. the field is FULL (just enough)");
        TileBins bins = sixTiles(6);
        answers.same("put of 6 tiles", bins.put(0, 0, 40, 20, 1), 0);
        answers.counts("all are taken", bins, 1, 6, 6, 6, TileBins.NONE);
        answers.refusedUnchanged("put of 1 tile", bins, FULL, () -> bins.put(0, 0, 1, 1, 2));
    }

    private static void oneCellToSpare(Answers answers) {
        answers.sentence("if there are not enough cells .. the field is FULL (one to spare)");
        TileBins bins = sixTiles(7);
        answers.same("put of 6 tiles", bins.put(0, 0, 40, 20, 1), 0);
        answers.refusedUnchanged("put of 2 tiles", bins, FULL, () -> bins.put(15, 0, 17, 1, 2));
        answers.same("put of 1 tile", bins.put(16, 0, 17, 1, 3), 1);
        answers.counts("all are taken", bins, 2, 7, 7, 6, TileBins.NONE);
    }

    private static void wholeOrNotAtAll(Answers answers) {
        answers.sentence("An item is put in whole or not at all");
        TileBins bins = sixTiles(8);
        bins.put(0, 0, 40, 20, 1);
        bins.open(0);
        answers.same("item ahead", bins.next(), 0);
        answers.refusedUnchanged("put of 4 tiles", bins, FULL, () -> bins.put(0, 0, 17, 17, 2));
        answers.refusedUnchanged("put of 3 tiles", bins, FULL, () -> bins.put(0, 0, 40, 1, 2));
        for (int tile = 0; tile < 6; tile++) {
            answers.same("tile(" + tile + ", 4)", bins.tile(tile, 4), 1);
        }
        answers.comes("no part of what was refused", bins);
        answers.same("put of 2 tiles has the next number", bins.put(0, 0, 1, 17, 3), 1);
        answers.partsOfItem("put of 2 tiles", bins, 1, 0, 0, 1, 17, 3, 2);
    }

    private static void cellsOfEveryItemCount(Answers answers) {
        answers.sentence("Each item in each tile that it touches takes a CELL of the STORE");
        TileBins bins = sixTiles(12);
        int[] taken = {4, 8, 12};
        for (int n = 0; n < taken.length; n++) {
            answers.same("the same rectangle again", bins.put(15, 15, 17, 17, 1), n);
            answers.same("count(1)", bins.count(1), taken[n]);
        }
        answers.refusedUnchanged("and again", bins, FULL, () -> bins.put(15, 15, 17, 17, 1));
    }

    private static void oneCell(Answers answers) {
        answers.sentence("there are so many cells as the field was made with (1)");
        TileBins bins = sixTiles(1);
        answers.refusedUnchanged("put of 2 tiles", bins, FULL, () -> bins.put(0, 15, 1, 17, 1));
        answers.same("put of 1 tile", bins.put(0, 15, 1, 16, 2), 0);
        answers.refusedUnchanged("put of 1 more", bins, FULL, () -> bins.put(39, 19, 40, 20, 3));
    }

    private static void mostCells(Answers answers) {
        answers.sentence("there are so many cells as the field was made with (8192)");
        TileBins bins = new TileBins();
        answers.same("field(1024, 512, 8, 8192)", bins.field(1024, 512, 8, 8192), 8192);
        answers.same("put of all tiles", bins.put(-9, -9, 9999, 9999, 1), 0);
        answers.same("item(0, 5)", bins.item(0, 5), 8192);
        answers.counts("all are taken", bins, 1, 8192, 8192, 8192, TileBins.NONE);
        answers.refused("put of 1 more", FULL, () -> bins.put(0, 0, 1, 1, 2));

        bins.field(1024, 513, 8, 8192);
        answers.refused("put of 8320 tiles", FULL, () -> bins.put(0, 0, 1024, 513, 1));
        answers.counts("none is taken", bins, 0, 0, 8192, 8320, TileBins.NONE);
        answers.same("put of 8192 tiles", bins.put(0, 0, 1024, 512, 1), 0);
    }

    private static void oneFewerThanMostCells(Answers answers) {
        answers.sentence("there are so many cells as the field was made with (8191)");
        TileBins bins = new TileBins();
        bins.field(1024, 512, 8, 8191);
        answers.refused("put of all tiles", FULL, () -> bins.put(0, 0, 1024, 512, 1));
        answers.same("put of 8064 tiles", bins.put(0, 0, 1024, 504, 1), 0);
        answers.refused("put of 128 tiles", FULL, () -> bins.put(0, 504, 1024, 512, 1));
        answers.same("put of 127 tiles", bins.put(0, 504, 1016, 512, 1), 1);
        answers.counts("all are taken", bins, 2, 8191, 8191, 8192, TileBins.NONE);
        answers.refused("put of 1 more", FULL, () -> bins.put(1016, 504, 1024, 512, 1));
    }

    private static void onlyTouchedTilesTakeCells(Answers answers) {
        answers.sentence("An item TOUCHES a tile if a place of the field is in both (cells)");
        TileBins bins = sixTiles(2);
        answers.same("far over the corner", bins.put(39, 19, 5000, 5000, 1), 0);
        answers.same("count(1)", bins.count(1), 1);
        answers.same("far ahead of the corner", bins.put(-5000, -5000, 1, 1, 2), 1);
        answers.same("count(1)", bins.count(1), 2);
    }

    private static void itemThatTouchesNoTile(Answers answers) {
        answers.sentence("An item that touches no tile is taken, too (it takes no cell)");
        TileBins bins = sixTiles(6);
        bins.put(0, 0, 40, 20, 1);
        answers.refusedUnchanged("put of 1 tile", bins, FULL, () -> bins.put(0, 0, 1, 1, 2));
        answers.same("outside", bins.put(40, 0, 41, 20, 3), 1);
        answers.same("without places", bins.put(7, 7, 7, 7, 4), 2);
        answers.counts("no cell more", bins, 3, 6, 6, 6, TileBins.NONE);
        answers.refusedUnchanged("put of 1 tile", bins, FULL, () -> bins.put(0, 0, 1, 1, 5));
    }

    private static void wideItemThatTouchesNoTile(Answers answers) {
        answers.sentence("An item that touches no tile is taken, too (wide or high, but outside)");
        TileBins bins = sixTiles(1);
        answers.same("below, all the width", bins.put(-100, 20, 100, 99, 1), 0);
        answers.same("right, all the height", bins.put(40, -100, 99, 100, 2), 1);
        answers.same("all the width, not high", bins.put(-100, 5, 100, 5, 3), 2);
        answers.counts("no cell", bins, 3, 0, 1, 6, TileBins.NONE);
    }

    private static void cellsAreFreeAfterEmpty(Answers answers) {
        answers.sentence("EMPTYING takes all items out (of a full field)");
        TileBins bins = sixTiles(6);
        for (int again = 0; again < 3; again++) {
            answers.same("put", bins.put(0, 0, 40, 20, again), 0);
            answers.refusedUnchanged("put more", bins, FULL, () -> bins.put(0, 0, 1, 1, 9));
            bins.empty();
            answers.counts("empty", bins, 0, 0, 6, 6, TileBins.NONE);
        }
    }

    private static void cellsAreFreeInANewField(Answers answers) {
        answers.sentence("A new field without items (behind a full one)");
        TileBins bins = sixTiles(6);
        bins.put(0, 0, 40, 20, 1);
        bins.field(40, 20, 16, 6);
        answers.same("put", bins.put(0, 0, 40, 20, 2), 0);
        bins.field(40, 20, 16, 3);
        answers.refusedUnchanged("put of 6", bins, FULL, () -> bins.put(0, 0, 40, 20, 3));
        answers.same("put of 3", bins.put(0, 0, 40, 1, 4), 0);
        answers.refusedUnchanged("put of 1", bins, FULL, () -> bins.put(0, 0, 1, 1, 5));
    }

    private static void comingFreesNoCell(Answers answers) {
        answers.sentence("What came isn't taken out");
        TileBins bins = sixTiles(6);
        bins.put(0, 0, 40, 20, 1);
        for (int tile = 0; tile < 6; tile++) {
            bins.open(tile);
            answers.comes("tile " + tile, bins, 0);
        }
        answers.counts("all are taken", bins, 1, 6, 6, 6, 5);
        answers.refusedUnchanged("put", bins, FULL, () -> bins.put(0, 0, 1, 1, 2));
    }

    /** 4096 puts are more than the 512 calls that are promised; the limit is kept nevertheless. */
    private static void fullAt4096Items(Answers answers) {
        answers.sentence("or there are 4096 items, the field is FULL");
        TileBins bins = sixTiles(8192);
        for (int n = 0; n < 4095; n++) {
            bins.put(40, 20, 41, 21, n);
        }
        answers.same("4096th put", bins.put(0, 0, 1, 1, 1), 4095);
        answers.counts("4096 items", bins, 4096, 1, 8192, 6, TileBins.NONE);
        answers.refusedUnchanged("put in the field", bins, FULL, () -> bins.put(0, 0, 1, 1, 2));
        answers.refusedUnchanged("put outside", bins, FULL, () -> bins.put(40, 20, 41, 21, 2));
    }
}
