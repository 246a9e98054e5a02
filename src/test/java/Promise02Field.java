public final class Promise02Field {
    public static void main(String[] args) {
        Answers answers = new Answers();
        howManyTiles(answers);
        newFieldHasNothing(answers);
        sameFieldAgainIsNew(answers);
        wrongInputs(answers);
        answers.end();
    }

    private static void howManyTiles(Answers answers) {
        TileBins bins = new TileBins();
        answers.same("field(1, 1, 64, 1)", bins.field(1, 1, 64, 1), 1);
        answers.same("field(8, 8, 8, 1)", bins.field(8, 8, 8, 1), 1);
        answers.same("field(9, 8, 8, 1)", bins.field(9, 8, 8, 1), 2);
        answers.same("field(8, 9, 8, 1)", bins.field(8, 9, 8, 1), 2);
        answers.same("field(9, 17, 8, 1)", bins.field(9, 17, 8, 1), 6);
        answers.same("field(100, 50, 16, 1)", bins.field(100, 50, 16, 1), 28);
        answers.same("field(100, 50, 32, 1)", bins.field(100, 50, 32, 1), 8);
        answers.same("field(100, 50, 64, 1)", bins.field(100, 50, 64, 1), 2);
        answers.same("field(1024, 1024, 8, 8192)", bins.field(1024, 1024, 8, 8192), 16384);
        answers.same("field(1024, 1, 16, 8192)", bins.field(1024, 1, 16, 8192), 64);
        answers.same("field(1, 1024, 32, 8192)", bins.field(1, 1024, 32, 8192), 32);
        answers.same("field(1023, 1023, 64, 8192)", bins.field(1023, 1023, 64, 8192), 256);
        answers.counts("last field", bins, 0, 0, 8192, 256, TileBins.NONE);
    }

    private static void newFieldHasNothing(Answers answers) {
        TileBins bins = new TileBins();
        bins.field(40, 20, 16, 6);
        bins.put(0, 0, 40, 20, 7);
        bins.open(5);
        answers.same("field(20, 40, 8, 9)", bins.field(20, 40, 8, 9), 15);
        answers.counts("new field", bins, 0, 0, 9, 15, TileBins.NONE);
        answers.refused("next()", IllegalStateException.class, bins::next);
        answers.refused("item(0, 4)", IndexOutOfBoundsException.class, () -> bins.item(0, 4));
        answers.partsOfTile("new field", bins, 14, 16, 32, 20, 40, 0);
        answers.same("put", bins.put(0, 0, 1, 1, 8), 0);
        bins.open(0);
        answers.comes("new field", bins, 0);
    }

    private static void sameFieldAgainIsNew(Answers answers) {
        TileBins bins = new TileBins();
        bins.field(40, 20, 16, 6);
        bins.put(0, 0, 40, 20, 7);
        bins.open(0);
        bins.field(40, 20, 16, 6);
        answers.counts("same field", bins, 0, 0, 6, 6, TileBins.NONE);
    }

    private static void wrongInputs(Answers answers) {
        int[] lengths = {0, -1, 1025, Integer.MIN_VALUE, Integer.MAX_VALUE};
        for (int length : lengths) {
            refused(answers, length, 1, 8, 1);
            refused(answers, 1, length, 8, 1);
        }
        int[] sides = {0, 1, 2, 4, 7, 9, 12, 24, 48, 63, 65, 128, -8, -16, 8 + 65536,
            Integer.MIN_VALUE, Integer.MAX_VALUE};
        for (int side : sides) {
            refused(answers, 10, 10, side, 1);
        }
        int[] stores = {0, -1, 8193, Integer.MIN_VALUE, Integer.MAX_VALUE};
        for (int cells : stores) {
            refused(answers, 10, 10, 8, cells);
        }
    }

    private static void refused(Answers answers, int wide, int high, int side, int cells) {
        TileBins bins = new TileBins();
        bins.field(40, 20, 16, 9);
        bins.put(0, 0, 40, 20, 7);
        bins.put(1, 1, 2, 2, 8);
        bins.open(0);
        bins.next();
        answers.refusedUnchanged("field(" + wide + ", " + high + ", " + side + ", " + cells + ")",
                bins, IllegalArgumentException.class, () -> bins.field(wide, high, side, cells));
        answers.comes("after a refused field", bins, 1);
    }
}
