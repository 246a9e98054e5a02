public final class Promise09TileOf {
    public static void main(String[] args) {
        Answers answers = new Answers();
        int[] sides = {8, 16, 32, 64};
        for (int side : sides) {
            everyPlace(answers, 100, 70, side);
        }
        TileBins bins = new TileBins();
        bins.field(1024, 1024, 8, 1);
        answers.same("tileOf(1023, 1023)", bins.tileOf(1023, 1023), 16383);
        answers.same("tileOf(1023, 0)", bins.tileOf(1023, 0), 127);
        answers.same("tileOf(0, 1023)", bins.tileOf(0, 1023), 16256);

        // The last tiles have fewer places: a place behind them is not in the field.
        bins.field(20, 10, 16, 1);
        int[][] outside = {{20, 0}, {0, 10}, {-1, 0}, {0, -1}, {31, 9}, {19, 15},
            {Integer.MIN_VALUE, 0}, {0, Integer.MIN_VALUE}, {Integer.MAX_VALUE, 0},
            {0, Integer.MAX_VALUE}, {Integer.MAX_VALUE, Integer.MAX_VALUE}};
        for (int[] place : outside) {
            answers.refusedUnchanged("tileOf(" + place[0] + ", " + place[1] + ")", bins,
                    IllegalArgumentException.class, () -> bins.tileOf(place[0], place[1]));
        }
        answers.end();
    }

    private static void everyPlace(Answers answers, int wide, int high, int side) {
        int inRow = (wide + side - 1) / side;
        for (int y = 0; y < high; y++) {
            // One for each line of places: an object is promised for no more than 512 calls.
            TileBins bins = new TileBins();
            bins.field(wide, high, side, 1);
            for (int x = 0; x < wide; x++) {
                answers.same("side " + side + ": tileOf(" + x + ", " + y + ")", bins.tileOf(x, y),
                        y / side * inRow + x / side);
            }
        }
    }
}
