/** "Those at the right and at the bottom may have fewer places." */
public final class EdgesOfTheLastTiles {
    private static final int[] SIDES = {8, 16, 32, 64};

    public static void main(String[] args) {
        Answers answers = new Answers();
        for (int side : SIDES) {
            // From a last tile that is one place wide or high to one that is whole.
            for (int rest = 1; rest <= side; rest++) {
                placesAtTheRight(answers, side, rest);
                placesAtTheBottom(answers, side, rest);
                placesAtTheCorner(answers, side, rest);
            }
            itemsInTheLastTiles(answers, side);
            itemsJustBehindTheLastTiles(answers, side);
            numbersRowByRow(answers, side);
            fieldSmallerThanATile(answers, side);
        }
        answers.end();
    }

    private static void placesAtTheRight(Answers answers, int side, int rest) {
        answers.sentence("those at the right .. may have fewer places");
        TileBins bins = new TileBins();
        answers.same("tiles", bins.field(2 * side + rest, side, side, 1), 3);
        answers.partsOfTile("side " + side, bins, 1, side, 0, 2 * side, side, 0);
        answers.partsOfTile("side " + side, bins, 2, 2 * side, 0, 2 * side + rest, side, 0);
        answers.same("first place", bins.tileOf(2 * side, 0), 2);
        answers.same("last place", bins.tileOf(2 * side + rest - 1, side - 1), 2);
        answers.refused("place behind", IllegalArgumentException.class,
                () -> bins.tileOf(2 * side + rest, 0));
    }

    private static void placesAtTheBottom(Answers answers, int side, int rest) {
        answers.sentence("those .. at the bottom may have fewer places");
        TileBins bins = new TileBins();
        answers.same("tiles", bins.field(side, 2 * side + rest, side, 1), 3);
        answers.partsOfTile("side " + side, bins, 1, 0, side, side, 2 * side, 0);
        answers.partsOfTile("side " + side, bins, 2, 0, 2 * side, side, 2 * side + rest, 0);
        answers.same("first place", bins.tileOf(0, 2 * side), 2);
        answers.same("last place", bins.tileOf(side - 1, 2 * side + rest - 1), 2);
        answers.refused("place behind", IllegalArgumentException.class,
                () -> bins.tileOf(0, 2 * side + rest));
    }

    private static void placesAtTheCorner(Answers answers, int side, int rest) {
        answers.sentence("those at the right and at the bottom may have fewer places");
        TileBins bins = new TileBins();
        answers.same("tiles", bins.field(side + rest, side + 1, side, 1), 4);
        answers.partsOfTile("side " + side, bins, 0, 0, 0, side, side, 0);
        answers.partsOfTile("side " + side, bins, 1, side, 0, side + rest, side, 0);
        answers.partsOfTile("side " + side, bins, 2, 0, side, side, side + 1, 0);
        answers.partsOfTile("side " + side, bins, 3, side, side, side + rest, side + 1, 0);
    }

    private static void itemsInTheLastTiles(Answers answers, int side) {
        answers.sentence("An item TOUCHES a tile if a place of the field is in both (last tiles)");
        TileBins bins = new TileBins();
        bins.field(side + 3, side + 2, side, 20);
        bins.put(side + 2, side + 1, side + 3, side + 2, 0);
        bins.put(side, 0, side + 1, 1, 1);
        bins.put(0, side, 1, side + 1, 2);
        bins.put(side - 1, side - 1, side, side, 3);
        bins.put(side + 2, side + 1, 9999, 9999, 4);
        int[][] due = {{3}, {1}, {2}, {0, 4}};
        for (int tile = 0; tile < 4; tile++) {
            answers.same("open(" + tile + ")", bins.open(tile), due[tile].length);
            answers.comes("tile " + tile, bins, due[tile]);
        }
    }

    // A whole square would have these places; the field has not.
    private static void itemsJustBehindTheLastTiles(Answers answers, int side) {
        answers.sentence("An item TOUCHES a tile if a place of the field is in both (behind)");
        TileBins bins = new TileBins();
        bins.field(side + 3, side + 2, side, 1);
        bins.put(side + 3, 0, 2 * side, side + 2, 0);
        bins.put(0, side + 2, side + 3, 2 * side, 1);
        bins.put(side + 3, side + 2, 2 * side, 2 * side, 2);
        answers.counts("three items", bins, 3, 0, 1, 4, TileBins.NONE);
        for (int tile = 0; tile < 4; tile++) {
            answers.same("tile(" + tile + ", 4)", bins.tile(tile, 4), 0);
        }
        for (int n = 0; n < 3; n++) {
            answers.partsOfItem("behind", bins, n, 0, 0, 0, 0, n, 0);
        }
    }

    private static void numbersRowByRow(Answers answers, int side) {
        answers.sentence("numbered from 0 row by row from the place (0, 0) on");
        TileBins bins = new TileBins();
        answers.same("tiles", bins.field(2 * side + 1, side + 1, side, 1), 6);
        int number = 0;
        for (int y = 0; y <= side; y += side) {
            for (int x = 0; x <= 2 * side; x += side) {
                answers.same("tileOf(" + x + ", " + y + ")", bins.tileOf(x, y), number);
                answers.same("tile(" + number + ", 0)", bins.tile(number, 0), x);
                answers.same("tile(" + number + ", 1)", bins.tile(number, 1), y);
                number++;
            }
        }
    }

    private static void fieldSmallerThanATile(Answers answers, int side) {
        answers.sentence("those at the right and at the bottom may have fewer places (only one)");
        TileBins bins = new TileBins();
        answers.same("tiles", bins.field(side - 1, 1, side, 3), 1);
        answers.partsOfTile("one tile", bins, 0, 0, 0, side - 1, 1, 0);
        bins.put(0, 0, side, side, 5);
        answers.partsOfItem("one tile", bins, 0, 0, 0, side - 1, 1, 5, 1);
    }
}
