/** A field with no items, with none that touches a tile, and a field that is emptied. */
public final class EdgesNoItems {
    public static void main(String[] args) {
        Answers answers = new Answers();
        newObject(answers);
        newField(answers);
        newFieldBehindOneWithItems(answers);
        emptied(answers);
        emptyWithNoItems(answers);
        emptyKeepsTheField(answers);
        emptyWhenAllHaveCome(answers);
        onlyItemsThatTouchNoTile(answers);
        tileThatNoItemTouches(answers);
        answers.end();
    }

    private static void hasNoItems(Answers answers, TileBins bins, int tiles) {
        answers.same("count(0)", bins.count(0), 0);
        answers.same("count(1)", bins.count(1), 0);
        answers.same("count(4)", bins.count(4), TileBins.NONE);
        answers.refused("next()", IllegalStateException.class, bins::next);
        for (int what = 0; what <= 5; what++) {
            int asked = what;
            answers.refused("item(0, " + what + ")", IndexOutOfBoundsException.class,
                    () -> bins.item(0, asked));
        }
        for (int tile = 0; tile < tiles; tile++) {
            answers.same("tile(" + tile + ", 4)", bins.tile(tile, 4), 0);
            answers.same("open(" + tile + ")", bins.open(tile), 0);
            answers.same("next()", bins.next(), TileBins.NONE);
            answers.same("next() again", bins.next(), TileBins.NONE);
            answers.same("count(4)", bins.count(4), tile);
        }
    }

    private static void newObject(Answers answers) {
        answers.sentence("A field of one place, side 8, with 64 cells; no items; no tile is open");
        TileBins bins = new TileBins();
        answers.counts("new", bins, 0, 0, 64, 1, TileBins.NONE);
        answers.partsOfTile("new", bins, 0, 0, 0, 1, 1, 0);
        hasNoItems(answers, bins, 1);
    }

    private static void newField(Answers answers) {
        answers.sentence("A new field without items; no tile is open");
        TileBins bins = new TileBins();
        hasNoItems(answers, bins, bins.field(40, 20, 16, 9));
    }

    private static void newFieldBehindOneWithItems(Answers answers) {
        answers.sentence("A new field without items; no tile is open (behind one with items)");
        TileBins bins = new TileBins();
        bins.field(40, 20, 16, 9);
        bins.put(0, 0, 40, 20, 1);
        bins.put(0, 0, 1, 1, 2);
        bins.open(0);
        bins.next();
        hasNoItems(answers, bins, bins.field(20, 40, 16, 9));
        bins.put(0, 0, 1, 1, 3);
        hasNoItems(answers, bins, bins.field(20, 40, 16, 9));
    }

    private static void emptied(Answers answers) {
        answers.sentence("All items go; no tile is open");
        TileBins bins = new TileBins();
        bins.field(40, 20, 16, 9);
        bins.put(0, 0, 40, 20, 1);
        bins.put(0, 0, 1, 1, 2);
        bins.open(0);
        bins.next();
        bins.empty();
        hasNoItems(answers, bins, 6);
        answers.same("put", bins.put(1, 1, 2, 2, 3), 0);
        answers.partsOfItem("put", bins, 0, 1, 1, 2, 2, 3, 1);
    }

    private static void emptyWithNoItems(Answers answers) {
        answers.sentence("All items go; no tile is open (there was none)");
        TileBins bins = new TileBins();
        bins.empty();
        hasNoItems(answers, bins, 1);
        bins.empty();
        bins.empty();
        hasNoItems(answers, bins, 1);
        bins.field(40, 20, 16, 9);
        bins.open(5);
        bins.empty();
        hasNoItems(answers, bins, 6);
    }

    private static void emptyKeepsTheField(Answers answers) {
        answers.sentence("All items go; no tile is open (the field stays)");
        TileBins bins = new TileBins();
        bins.field(40, 20, 16, 9);
        bins.put(0, 0, 40, 20, 1);
        bins.empty();
        answers.counts("empty", bins, 0, 0, 9, 6, TileBins.NONE);
        answers.partsOfTile("empty", bins, 5, 32, 16, 40, 20, 0);
        answers.same("tileOf(39, 19)", bins.tileOf(39, 19), 5);
    }

    private static void emptyWhenAllHaveCome(Answers answers) {
        answers.sentence("A tile is opened, ahead of its first item (emptied behind its last)");
        TileBins bins = new TileBins();
        bins.put(0, 0, 1, 1, 1);
        bins.put(0, 0, 1, 1, 2);
        bins.open(0);
        answers.comes("two items", bins, 0, 1);
        bins.empty();
        bins.put(0, 0, 1, 1, 3);
        answers.refused("next()", IllegalStateException.class, bins::next);
        answers.same("open(0)", bins.open(0), 1);
        answers.comes("the one item", bins, 0);
    }

    private static void onlyItemsThatTouchNoTile(Answers answers) {
        answers.sentence("how many items touch it (there are items, but none touches)");
        TileBins bins = new TileBins();
        bins.field(20, 20, 16, 9);
        bins.put(20, 20, 32, 32, 1);
        bins.put(0, 0, 0, 0, 2);
        bins.put(-1, -1, 0, 0, 3);
        for (int tile = 0; tile < 4; tile++) {
            answers.same("tile(" + tile + ", 4)", bins.tile(tile, 4), 0);
            answers.same("open(" + tile + ")", bins.open(tile), 0);
            answers.comes("tile " + tile, bins);
        }
        answers.counts("three items", bins, 3, 0, 9, 4, 3);
    }

    private static void tileThatNoItemTouches(Answers answers) {
        answers.sentence("its number, NONE if there is none");
        TileBins bins = new TileBins();
        bins.field(24, 8, 8, 9);
        bins.put(0, 0, 8, 8, 1);
        bins.put(16, 0, 24, 8, 2);
        answers.same("open(1)", bins.open(1), 0);
        answers.comes("between two items", bins);
        answers.same("NONE again", bins.next(), TileBins.NONE);
        answers.same("count(4)", bins.count(4), 1);
        answers.same("open(2)", bins.open(2), 1);
        answers.comes("last tile", bins, 1);
    }
}
