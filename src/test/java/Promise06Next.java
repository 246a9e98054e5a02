public final class Promise06Next {
    public static void main(String[] args) {
        Answers answers = new Answers();
        TileBins bins = new TileBins();
        answers.refusedUnchanged("next() of a new object", bins, IllegalStateException.class,
                bins::next);

        bins.field(24, 24, 8, 100);
        bins.put(0, 0, 24, 24, 0);
        bins.put(8, 8, 16, 16, 1);
        bins.put(0, 0, 8, 8, 2);
        bins.put(7, 7, 9, 9, 3);
        bins.put(4, 4, 4, 20, 4);
        bins.put(15, 8, 24, 9, 5);
        answers.refusedUnchanged("next() with nothing open", bins, IllegalStateException.class,
                bins::next);

        int[][] due = {{0, 2, 3}, {0, 3}, {0}, {0, 3}, {0, 1, 3, 5}, {0, 5}, {0}, {0}, {0}};
        for (int tile = 0; tile < due.length; tile++) {
            bins.open(tile);
            answers.comes("tile " + tile, bins, due[tile]);
            answers.same("NONE again", bins.next(), TileBins.NONE);
            answers.same("still open", bins.count(4), tile);
        }
        answers.counts("nothing is taken out", bins, 6, 17, 100, 9, 8);
        bins.open(0);
        answers.comes("tile 0 once more", bins, due[0]);

        bins.empty();
        answers.refusedUnchanged("next() after empty", bins, IllegalStateException.class,
                bins::next);
        bins.open(0);
        bins.field(8, 8, 8, 1);
        answers.refusedUnchanged("next() after field", bins, IllegalStateException.class,
                bins::next);
        answers.end();
    }
}
