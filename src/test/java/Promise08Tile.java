public final class Promise08Tile {
    public static void main(String[] args) {
        Answers answers = new Answers();
        TileBins bins = fourItems();
        answers.partsOfTile("40 by 20", bins, 0, 0, 0, 16, 16, 2);
        answers.partsOfTile("40 by 20", bins, 1, 16, 0, 32, 16, 1);
        answers.partsOfTile("40 by 20", bins, 2, 32, 0, 40, 16, 0);
        answers.partsOfTile("40 by 20", bins, 3, 0, 16, 16, 20, 1);
        answers.partsOfTile("40 by 20", bins, 4, 16, 16, 32, 20, 1);
        answers.partsOfTile("40 by 20", bins, 5, 32, 16, 40, 20, 1);
        answers.same("no tile is opened", bins.count(4), TileBins.NONE);
        openTileGoesOn(answers, bins);
        wrongInputs(answers);

        bins.field(1024, 1024, 8, 1);
        answers.partsOfTile("1024 by 1024", bins, 16383, 1016, 1016, 1024, 1024, 0);
        answers.partsOfTile("1024 by 1024", bins, 128, 0, 8, 8, 16, 0);
        bins.field(65, 64, 64, 1);
        answers.partsOfTile("65 by 64", bins, 1, 64, 0, 65, 64, 0);
        bins.field(33, 65, 32, 1);
        answers.partsOfTile("33 by 65", bins, 5, 32, 64, 33, 65, 0);
        bins.field(8, 20, 8, 1);
        answers.partsOfTile("one column", bins, 2, 0, 16, 8, 20, 0);
        bins.field(20, 8, 8, 1);
        answers.partsOfTile("one line", bins, 2, 16, 0, 20, 8, 0);
        answers.end();
    }

    private static void openTileGoesOn(Answers answers, TileBins bins) {
        bins.open(0);
        bins.next();
        answers.same("tile(5, 4)", bins.tile(5, 4), 1);
        answers.comes("after tile()", bins, 1);
    }

    private static TileBins fourItems() {
        TileBins bins = new TileBins();
        bins.field(40, 20, 16, 20);
        bins.put(15, 15, 17, 17, 0);
        bins.put(0, 0, 16, 16, 1);
        bins.put(39, 19, 99, 99, 2);
        bins.put(40, 20, 99, 99, 3);
        return bins;
    }

    private static void wrongInputs(Answers answers) {
        int[] none = {-1, 6, Integer.MIN_VALUE, Integer.MAX_VALUE};
        for (int n : none) {
            for (int what = 0; what <= 5; what++) {
                int asked = what;
                answers.refusedUnchanged("tile(" + n + ", " + what + ")", Promise08Tile::fourItems,
                        IllegalArgumentException.class, bins -> bins.tile(n, asked));
            }
        }
        int[] others = {-1, 5, Integer.MIN_VALUE, Integer.MAX_VALUE};
        for (int what : others) {
            answers.refusedUnchanged("tile(0, " + what + ")", Promise08Tile::fourItems,
                    IllegalArgumentException.class, bins -> bins.tile(0, what));
        }
    }
}
