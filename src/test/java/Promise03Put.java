public final class Promise03Put {
    public static void main(String[] args) {
        Answers answers = new Answers();
        numbersFromZero(answers);
        cellsAreTakenWholeOrNot(answers);
        untouchingItemsAreTakenWhenCellsAreOut(answers);
        openTileStaysOpen(answers);
        refusedPutLeavesTheOpenTile(answers);
        mostCells(answers);
        noMoreThan4096Items(answers);
        answers.end();
    }

    private static void numbersFromZero(Answers answers) {
        TileBins bins = new TileBins();
        bins.field(100, 100, 8, 8192);
        for (int n = 0; n < 150; n++) {
            answers.same("put " + n, bins.put(n, n, n + 9, n + 9, -n), n);
        }
        for (int n = 0; n < 150; n++) {
            answers.same("tag of " + n, bins.item(n, 4), -n);
            answers.same("x0 of " + n, bins.item(n, 0), n < 100 ? n : 0);
        }
    }

    private static void cellsAreTakenWholeOrNot(Answers answers) {
        TileBins bins = new TileBins();
        bins.field(40, 20, 16, 6);
        bins.put(15, 15, 17, 17, 1);
        answers.counts("four cells", bins, 1, 4, 6, 6, TileBins.NONE);
        answers.refusedUnchanged("put of three tiles", bins, IllegalStateException.class,
                () -> bins.put(0, 0, 40, 2, 2));
        answers.same("put of two tiles", bins.put(0, 0, 32, 2, 3), 1);
        answers.counts("all cells", bins, 2, 6, 6, 6, TileBins.NONE);
        answers.refusedUnchanged("put of one tile", bins, IllegalStateException.class,
                () -> bins.put(0, 0, 1, 1, 4));
    }

    private static void untouchingItemsAreTakenWhenCellsAreOut(Answers answers) {
        TileBins bins = new TileBins();
        bins.field(8, 8, 8, 1);
        bins.put(0, 0, 8, 8, 1);
        answers.same("empty rectangle", bins.put(3, 3, 3, 5, 2), 1);
        answers.same("turned rectangle", bins.put(5, 5, 3, 3, 3), 2);
        answers.same("right of the field", bins.put(8, 0, 9, 8, 4), 3);
        answers.same("below the field", bins.put(0, 8, 8, 9, 5), 4);
        answers.same("left of the field", bins.put(-3, 0, 0, 8, 6), 5);
        answers.same("above the field", bins.put(0, Integer.MIN_VALUE, 8, 0, 7), 6);
        answers.same("turned, of all numbers", bins.put(Integer.MAX_VALUE, Integer.MAX_VALUE,
                Integer.MIN_VALUE, Integer.MIN_VALUE, 8), 7);
        answers.counts("untouching", bins, 8, 1, 1, 1, TileBins.NONE);
        answers.same("open(0)", bins.open(0), 1);
        answers.comes("untouching", bins, 0);
    }

    private static void openTileStaysOpen(Answers answers) {
        TileBins bins = new TileBins();
        bins.field(32, 8, 8, 100);
        bins.put(0, 0, 1, 1, 0);
        bins.open(1);
        answers.comes("nothing yet", bins);
        bins.put(8, 0, 9, 1, 1);
        answers.same("open tile", bins.count(4), 1);
        bins.put(16, 0, 17, 1, 2);
        bins.put(7, 0, 9, 1, 3);
        answers.comes("put behind NONE", bins, 1, 3);
        bins.put(15, 0, 16, 1, 4);
        answers.comes("put behind NONE again", bins, 4);
        bins.open(1);
        bins.next();
        bins.put(8, 7, 16, 8, 5);
        answers.comes("put in the middle", bins, 3, 4, 5);
    }

    private static void refusedPutLeavesTheOpenTile(Answers answers) {
        TileBins bins = new TileBins();
        bins.field(16, 8, 8, 3);
        bins.put(0, 0, 16, 1, 0);
        bins.put(0, 0, 1, 1, 1);
        bins.open(0);
        bins.next();
        answers.refusedUnchanged("put over the store", bins, IllegalStateException.class,
                () -> bins.put(0, 0, 1, 1, 2));
        answers.comes("after a refused put", bins, 1);
    }

    private static void mostCells(Answers answers) {
        TileBins bins = new TileBins();
        bins.field(1024, 1024, 8, 8192);
        answers.refusedUnchanged("put of all tiles", bins, IllegalStateException.class,
                () -> bins.put(Integer.MIN_VALUE, Integer.MIN_VALUE, Integer.MAX_VALUE,
                        Integer.MAX_VALUE, 1));
        answers.same("put of half the tiles", bins.put(0, 0, 1024, 512, 1), 0);
        answers.counts("half", bins, 1, 8192, 8192, 16384, TileBins.NONE);
    }

    /** Behind the 512th call nothing is promised, but the class has the limit that the terms name. */
    private static void noMoreThan4096Items(Answers answers) {
        TileBins bins = new TileBins();
        bins.field(8, 8, 8, 8192);
        for (int n = 0; n < 4096; n++) {
            answers.same("put " + n, bins.put(0, 0, n % 2, 1, n), n);
        }
        answers.counts("4096 items", bins, 4096, 2048, 8192, 1, TileBins.NONE);
        answers.refusedUnchanged("put of a 4097th item", bins, IllegalStateException.class,
                () -> bins.put(0, 0, 0, 0, 1));
        bins.empty();
        answers.same("put after empty", bins.put(0, 0, 0, 0, 1), 0);
    }
}
