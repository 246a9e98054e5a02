public final class Promise04Empty {
    public static void main(String[] args) {
        Answers answers = new Answers();
        TileBins bins = new TileBins();
        bins.empty();
        answers.counts("new and empty", bins, 0, 0, 64, 1, TileBins.NONE);

        bins.field(40, 20, 16, 6);
        bins.put(0, 0, 40, 20, 7);
        bins.open(0);
        bins.next();
        bins.empty();
        answers.counts("empty", bins, 0, 0, 6, 6, TileBins.NONE);
        answers.refused("next()", IllegalStateException.class, bins::next);
        answers.refused("item(0, 0)", IndexOutOfBoundsException.class, () -> bins.item(0, 0));
        answers.partsOfTile("empty", bins, 5, 32, 16, 40, 20, 0);
        answers.same("open(0)", bins.open(0), 0);
        answers.comes("empty", bins);

        answers.same("put", bins.put(20, 2, 21, 3, 9), 0);
        answers.partsOfItem("put after empty", bins, 0, 20, 2, 21, 3, 9, 1);
        answers.same("old tile", bins.tile(0, 4), 0);
        answers.same("open(1)", bins.open(1), 1);
        answers.comes("put after empty", bins, 0);
        answers.end();
    }
}
