/** A tile that is open: what comes, and what does when an item is put meanwhile. */
public final class EdgesOfTheOpenTile {
    private static final Class<IllegalStateException> STATE = IllegalStateException.class;

    public static void main(String[] args) {
        Answers answers = new Answers();
        putAheadOfTheFirst(answers);
        putBetween(answers);
        putWhenTheLastHasCome(answers);
        putBehindNone(answers);
        putInATileWithoutItems(answers);
        putElsewhere(answers);
        putOutside(answers);
        putInManyTiles(answers);
        refusedPut(answers);
        manyPutsAsTheRowGrows(answers);
        openTileStaysOpen(answers);
        openCountsOnceOnly(answers);
        openAgainIsAheadOfTheFirst(answers);
        openAnother(answers);
        noTileIsOpen(answers);
        noneAgainAndAgain(answers);
        inTheOrderOfTheirNumbers(answers);
        answers.end();
    }

    /** Three tiles in a row; item 0 and item 2 are in tile 1, item 1 is in tile 0. */
    private static TileBins threeTiles() {
        TileBins bins = new TileBins();
        bins.field(24, 8, 8, 100);
        bins.put(8, 0, 9, 1, 0);
        bins.put(0, 0, 1, 1, 1);
        bins.put(15, 7, 16, 8, 2);
        bins.open(1);
        return bins;
    }

    private static void putAheadOfTheFirst(Answers answers) {
        answers.sentence("and the item comes, if it touches it (put ahead of the first)");
        TileBins bins = threeTiles();
        answers.same("put", bins.put(8, 0, 16, 8, 3), 3);
        answers.comes("tile 1", bins, 0, 2, 3);
    }

    private static void putBetween(Answers answers) {
        answers.sentence("and the item comes, if it touches it (put between two)");
        TileBins bins = threeTiles();
        answers.same("next()", bins.next(), 0);
        answers.same("put", bins.put(8, 0, 16, 8, 3), 3);
        answers.comes("tile 1", bins, 2, 3);
    }

    private static void putWhenTheLastHasCome(Answers answers) {
        answers.sentence("and the item comes .. even if all others have come (NONE not asked)");
        TileBins bins = threeTiles();
        answers.same("next()", bins.next(), 0);
        answers.same("next()", bins.next(), 2);
        answers.same("put", bins.put(8, 0, 16, 8, 3), 3);
        answers.comes("tile 1", bins, 3);
    }

    private static void putBehindNone(Answers answers) {
        answers.sentence("and the item comes .. even if all others have come (NONE was answered)");
        TileBins bins = threeTiles();
        answers.comes("tile 1", bins, 0, 2);
        answers.same("put", bins.put(8, 0, 16, 8, 3), 3);
        answers.comes("put behind NONE", bins, 3);
        answers.same("put", bins.put(8, 0, 16, 8, 4), 4);
        answers.same("put", bins.put(8, 0, 16, 8, 5), 5);
        answers.comes("two put behind NONE", bins, 4, 5);
    }

    private static void putInATileWithoutItems(Answers answers) {
        answers.sentence("and the item comes .. even if all others have come (there were none)");
        TileBins bins = new TileBins();
        answers.same("open(0)", bins.open(0), 0);
        answers.same("put", bins.put(0, 0, 1, 1, 7), 0);
        answers.comes("new object", bins, 0);
        answers.same("put", bins.put(0, 0, 1, 1, 8), 1);
        answers.comes("new object", bins, 1);
    }

    private static void putElsewhere(Answers answers) {
        answers.sentence("and the item comes, if it touches it (it does not)");
        TileBins bins = threeTiles();
        bins.put(7, 0, 8, 8, 3);
        answers.comes("tile 1", bins, 0, 2);
        bins.put(16, 0, 17, 8, 4);
        answers.comes("behind NONE", bins);
        bins.put(15, 0, 17, 8, 5);
        answers.comes("one that does", bins, 5);
    }

    private static void putOutside(Answers answers) {
        answers.sentence("and the item comes, if it touches it (it touches no tile)");
        TileBins bins = threeTiles();
        answers.same("put below", bins.put(8, 8, 16, 16, 3), 3);
        answers.same("put of no place", bins.put(9, 1, 9, 1, 4), 4);
        answers.comes("tile 1", bins, 0, 2);
        bins.put(-5, -5, 0, 0, 5);
        answers.comes("behind NONE", bins);
        answers.same("count(4)", bins.count(4), 1);
    }

    private static void putInManyTiles(Answers answers) {
        answers.sentence("and the item comes, if it touches it (and others, too)");
        TileBins bins = threeTiles();
        bins.put(-9, -9, 99, 99, 3);
        answers.comes("tile 1", bins, 0, 2, 3);
        bins.open(0);
        answers.comes("tile 0", bins, 1, 3);
        bins.open(2);
        answers.comes("tile 2", bins, 3);
    }

    private static void refusedPut(Answers answers) {
        answers.sentence("IllegalStateException if the field is full (a tile is open)");
        TileBins bins = new TileBins();
        bins.field(24, 8, 8, 3);
        bins.put(8, 0, 9, 1, 0);
        bins.put(8, 0, 9, 1, 1);
        bins.open(1);
        answers.same("next()", bins.next(), 0);
        answers.refusedUnchanged("put of 2 tiles", bins, STATE, () -> bins.put(8, 0, 24, 1, 2));
        answers.comes("nothing of the refused one", bins, 1);
        answers.refusedUnchanged("put of 3 tiles", bins, STATE, () -> bins.put(0, 0, 24, 1, 3));
        answers.comes("nothing behind NONE", bins);
        answers.same("put of 1 tile", bins.put(8, 0, 9, 1, 4), 2);
        answers.comes("the one that fits", bins, 2);
    }

    private static void manyPutsAsTheRowGrows(Answers answers) {
        answers.sentence("An open tile stays open (and the item comes)");
        TileBins bins = new TileBins();
        bins.field(24, 8, 8, 8192);
        bins.open(1);
        for (int n = 0; n < 240; n += 2) {
            bins.put(8, 0, 9, 1, n);
            bins.put(0, 0, 1, 1, n);
            answers.comes("put " + n, bins, n);
        }
    }

    private static void openTileStaysOpen(Answers answers) {
        answers.sentence("An open tile stays open");
        TileBins bins = threeTiles();
        bins.put(0, 0, 1, 1, 3);
        answers.same("put elsewhere", bins.count(4), 1);
        bins.put(8, 0, 9, 1, 4);
        answers.same("put in it", bins.count(4), 1);
        bins.put(90, 0, 91, 1, 5);
        answers.same("put outside", bins.count(4), 1);
        answers.comes("tile 1", bins, 0, 2, 4);
        answers.same("behind NONE", bins.count(4), 1);
        bins.tile(0, 4);
        bins.item(0, 0);
        bins.tileOf(0, 0);
        answers.same("asked for others", bins.count(4), 1);
    }

    private static void openCountsOnceOnly(Answers answers) {
        answers.sentence("how many items touch it");
        TileBins bins = threeTiles();
        answers.same("open(1)", bins.open(1), 2);
        bins.next();
        answers.same("tile(1, 4) with one come", bins.tile(1, 4), 2);
        bins.put(8, 0, 9, 1, 3);
        answers.same("tile(1, 4) with one more", bins.tile(1, 4), 3);
        answers.same("open(1) with one more", bins.open(1), 3);
    }

    private static void openAgainIsAheadOfTheFirst(Answers answers) {
        answers.sentence("A tile is opened, ahead of its first item");
        TileBins bins = threeTiles();
        answers.same("next()", bins.next(), 0);
        answers.same("open(1) in the middle", bins.open(1), 2);
        answers.comes("tile 1", bins, 0, 2);
        answers.same("open(1) behind NONE", bins.open(1), 2);
        answers.comes("tile 1", bins, 0, 2);
    }

    private static void openAnother(Answers answers) {
        answers.sentence("A tile is opened, ahead of its first item (another was open)");
        TileBins bins = threeTiles();
        answers.comes("tile 1", bins, 0, 2);
        answers.same("open(0)", bins.open(0), 1);
        answers.same("count(4)", bins.count(4), 0);
        answers.comes("tile 0", bins, 1);
        answers.same("open(2)", bins.open(2), 0);
        answers.comes("tile 2", bins);
        answers.same("open(1)", bins.open(1), 2);
        answers.comes("tile 1", bins, 0, 2);
    }

    private static void noTileIsOpen(Answers answers) {
        answers.sentence("next: IllegalStateException if no tile is open");
        TileBins bins = new TileBins();
        answers.refusedUnchanged("next() when new", bins, STATE, bins::next);
        bins.put(0, 0, 1, 1, 1);
        answers.refusedUnchanged("next() with an item", bins, STATE, bins::next);
        bins.open(0);
        answers.same("next()", bins.next(), 0);
        bins.empty();
        answers.refusedUnchanged("next() when emptied", bins, STATE, bins::next);
        bins.put(0, 0, 1, 1, 2);
        answers.refusedUnchanged("next() with an item again", bins, STATE, bins::next);
        bins.open(0);
        bins.field(9, 9, 8, 4);
        answers.refusedUnchanged("next() in a new field", bins, STATE, bins::next);
        answers.refused("open(4)", IllegalArgumentException.class, () -> bins.open(4));
        answers.refusedUnchanged("next() behind a refused open", bins, STATE, bins::next);
    }

    private static void noneAgainAndAgain(Answers answers) {
        answers.sentence("The next item of the open tile comes: its number, NONE if there is none");
        TileBins bins = threeTiles();
        answers.comes("tile 1", bins, 0, 2);
        for (int again = 0; again < 5; again++) {
            answers.same("next() again", bins.next(), TileBins.NONE);
        }
        answers.counts("all stay", bins, 3, 3, 100, 3, 1);
    }

    private static void inTheOrderOfTheirNumbers(Answers answers) {
        answers.sentence("its items then come one by one, in the order of their numbers");
        TileBins bins = new TileBins();
        bins.field(24, 8, 8, 100);
        // From the right to the left, with tags that fall: neither place nor tag gives the order.
        for (int n = 0; n < 8; n++) {
            bins.put(15 - n, 7 - n, 16 - n, 8 - n, -n);
        }
        bins.open(1);
        answers.comes("tile 1", bins, 0, 1, 2, 3, 4, 5, 6, 7);
    }
}
