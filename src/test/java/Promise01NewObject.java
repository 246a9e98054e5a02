public final class Promise01NewObject {
    public static void main(String[] args) {
        Answers answers = new Answers();
        TileBins bins = new TileBins();
        answers.counts("new", bins, 0, 0, 64, 1, TileBins.NONE);
        answers.partsOfTile("new", bins, 0, 0, 0, 1, 1, 0);
        answers.same("tileOf(0, 0)", bins.tileOf(0, 0), 0);
        answers.refused("tileOf(1, 0)", IllegalArgumentException.class, () -> bins.tileOf(1, 0));
        answers.refused("tileOf(0, 1)", IllegalArgumentException.class, () -> bins.tileOf(0, 1));
        answers.refused("next()", IllegalStateException.class, bins::next);
        answers.refused("item(0, 0)", IndexOutOfBoundsException.class, () -> bins.item(0, 0));
        answers.refused("open(1)", IllegalArgumentException.class, () -> bins.open(1));
        storeHas64Cells(answers);
        objectsAreApart(answers);
        answers.end();
    }

    private static void storeHas64Cells(Answers answers) {
        TileBins bins = new TileBins();
        for (int n = 0; n < 64; n++) {
            answers.same("put " + n, bins.put(-1, -1, 9, 9, n), n);
        }
        answers.refusedUnchanged("put over 64 cells", bins, IllegalStateException.class,
                () -> bins.put(0, 0, 1, 1, 64));
    }

    private static void objectsAreApart(Answers answers) {
        TileBins first = new TileBins();
        first.field(64, 64, 8, 100);
        first.put(0, 0, 64, 64, 1);
        first.open(3);
        TileBins second = new TileBins();
        answers.counts("second", second, 0, 0, 64, 1, TileBins.NONE);
        second.put(0, 0, 1, 1, 5);
        answers.counts("first", first, 1, 64, 100, 64, 3);
        answers.same("first tag", first.item(0, 4), 1);
    }
}
