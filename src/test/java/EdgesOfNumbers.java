import java.util.function.ObjIntConsumer;
import java.util.function.Supplier;

/** Each number that the document bounds: just below, at and just above each edge, and far off. */
public final class EdgesOfNumbers {
    private static final Class<IllegalArgumentException> ARGUMENT = IllegalArgumentException.class;
    private static final Class<IndexOutOfBoundsException> INDEX = IndexOutOfBoundsException.class;

    public static void main(String[] args) {
        Answers answers = new Answers();
        widths(answers);
        heights(answers);
        widthAndHeightAtOnce(answers);
        sides(answers);
        cells(answers);
        tilesToOpen(answers);
        itemNumbers(answers);
        itemNumbersAsTheRowGrows(answers);
        partsOfAnItem(answers);
        tileNumbers(answers);
        partsOfATile(answers);
        placesAcross(answers);
        placesDown(answers);
        countNumbers(answers);
        lastCallOf512(answers);
        answers.end();
    }

    private static void widths(Answers answers) {
        answers.sentence("IllegalArgumentException if wide or high is not 1 .. 1024 (wide)");
        int[][] tilesOfWidth = {{1, 1}, {2, 1}, {1023, 128}, {1024, 128}};
        for (int[] row : tilesOfWidth) {
            TileBins bins = new TileBins();
            answers.same("field wide " + row[0], bins.field(row[0], 5, 8, 1), row[1]);
            answers.same("its last place", bins.tileOf(row[0] - 1, 4), row[1] - 1);
            answers.refused("its place behind", ARGUMENT, () -> bins.tileOf(row[0], 4));
        }
        refusedEach(answers, TileBins::new, "field wide", ARGUMENT,
                (bins, wide) -> bins.field(wide, 5, 8, 1), -1, 0, 1025, 65536 + 5, -5, -1024);
    }

    private static void heights(Answers answers) {
        answers.sentence("IllegalArgumentException if wide or high is not 1 .. 1024 (high)");
        int[][] tilesOfHeight = {{1, 1}, {2, 1}, {1023, 128}, {1024, 128}};
        for (int[] row : tilesOfHeight) {
            TileBins bins = new TileBins();
            answers.same("field high " + row[0], bins.field(5, row[0], 8, 1), row[1]);
            answers.same("its last place", bins.tileOf(4, row[0] - 1), row[1] - 1);
            answers.refused("its place behind", ARGUMENT, () -> bins.tileOf(4, row[0]));
        }
        refusedEach(answers, TileBins::new, "field high", ARGUMENT,
                (bins, high) -> bins.field(5, high, 8, 1), -1, 0, 1025, 65536 + 5, -5, -1024);
    }

    private static void widthAndHeightAtOnce(Answers answers) {
        answers.sentence("A FIELD is 1 to 1024 places wide and high");
        TileBins bins = new TileBins();
        answers.same("field(1, 1, 8, 1)", bins.field(1, 1, 8, 1), 1);
        answers.same("field(1024, 1024, 64, 1)", bins.field(1024, 1024, 64, 1), 256);
        answers.same("field(1024, 1, 64, 1)", bins.field(1024, 1, 64, 1), 16);
        answers.same("field(1, 1024, 64, 1)", bins.field(1, 1024, 64, 1), 16);
        int[][] wrong = {{1024, 1025}, {1025, 1024}, {1025, 1025}, {0, 1}, {1, 0}, {0, 0}, {0, 1024},
            {1024, 0}, {-1, -1}};
        for (int[] size : wrong) {
            answers.refusedUnchanged("field(" + size[0] + ", " + size[1] + ", 8, 1)",
                    () -> fieldOf(1, 1024, 64), ARGUMENT,
                    one -> one.field(size[0], size[1], 8, 1));
        }
    }

    private static void sides(Answers answers) {
        answers.sentence("IllegalArgumentException if .. side not 8, 16, 32 or 64");
        int[] sides = {8, 16, 32, 64};
        for (int side : sides) {
            TileBins bins = new TileBins();
            answers.same("field of side " + side, bins.field(64, 64, side, 1),
                    64 / side * (64 / side));
            answers.partsOfTile("side " + side, bins, 0, 0, 0, side, side, 0);
            refusedEach(answers, () -> fieldOf(64, 64, side), "field of side", ARGUMENT,
                    (made, one) -> made.field(64, 64, one, 1),
                    side - 1, side + 1, -side, side + 256, side + 65536);
        }
        refusedEach(answers, TileBins::new, "field of side", ARGUMENT,
                (made, one) -> made.field(64, 64, one, 1),
                -1, 0, 1, 2, 3, 4, 5, 6, 24, 40, 48, 56, 128, 1024);
    }

    private static void cells(Answers answers) {
        answers.sentence("IllegalArgumentException if .. cells not 1 .. 8192");
        int[] right = {1, 2, 8191, 8192};
        for (int cells : right) {
            TileBins bins = new TileBins();
            answers.same("field of " + cells + " cells", bins.field(9, 9, 8, cells), 4);
            answers.same("count(2)", bins.count(2), cells);
        }
        refusedEach(answers, TileBins::new, "field of cells", ARGUMENT,
                (bins, cells) -> bins.field(9, 9, 8, cells), -1, 0, 8193, 65536 + 1, -8192);
    }

    private static void tilesToOpen(Answers answers) {
        answers.sentence("open: IllegalArgumentException if there is no such tile");
        int[][] fields = {{1, 1, 8}, {40, 20, 16}, {64, 64, 32}, {65, 64, 64}};
        for (int[] field : fields) {
            TileBins bins = new TileBins();
            int tiles = bins.field(field[0], field[1], field[2], 1);
            int[] right = {0, 1 % tiles, (tiles - 1) / 2, tiles - 1};
            for (int tile : right) {
                answers.same("open(" + tile + ") of " + tiles, bins.open(tile), 0);
                answers.same("count(4)", bins.count(4), tile);
            }
            refusedEach(answers, () -> withLastTileOpen(field), "open of " + tiles, ARGUMENT,
                    TileBins::open, -1, -2, tiles, tiles + 1, 16384, -tiles);
        }
        TileBins most = fieldOf(1024, 1024, 8);
        answers.same("open(16383)", most.open(16383), 0);
        answers.refused("open(16384)", ARGUMENT, () -> most.open(16384));
        answers.same("count(4)", most.count(4), 16383);
    }

    private static TileBins withLastTileOpen(int[] field) {
        TileBins bins = fieldOf(field[0], field[1], field[2]);
        bins.open(bins.count(3) - 1);
        return bins;
    }

    private static void itemNumbers(Answers answers) {
        answers.sentence("IndexOutOfBoundsException if there is no such item");
        for (int items = 0; items <= 3; items++) {
            int many = items;
            TileBins bins = withItems(many);
            for (int n = 0; n < items; n++) {
                answers.same("item(" + n + ", 4) of " + items, bins.item(n, 4), 70 + n);
            }
            // Six times the last two wraps around to 2 and -2.
            refusedEach(answers, () -> withItems(many), "item of " + items, INDEX,
                    (made, n) -> made.item(n, 4),
                    -1, items, items + 1, 4095, 4096, 715827883, -715827883);
        }
    }

    private static TileBins withItems(int many) {
        TileBins bins = fieldOf(9, 9, 8);
        for (int n = 0; n < many; n++) {
            bins.put(0, 0, 1, 1, 70 + n);
        }
        return bins;
    }

    private static void itemNumbersAsTheRowGrows(Answers answers) {
        answers.sentence("ITEMS are numbered from 0 on");
        TileBins bins = new TileBins();
        for (int items = 0; items < 150; items++) {
            int behind = items;
            answers.refused("item(" + items + ", 5)", INDEX, () -> bins.item(behind, 5));
            answers.same("put " + items, bins.put(1, 1, 2, 2, ~items), items);
            answers.same("item(" + items + ", 4)", bins.item(items, 4), ~items);
        }
        answers.same("item(0, 4)", bins.item(0, 4), -1);
    }

    private static void partsOfAnItem(Answers answers) {
        answers.sentence("item: IllegalArgumentException for another what");
        TileBins bins = withTwoItems();
        answers.partsOfItem("first", bins, 0, 1, 2, 33, 19, 77, 6);
        answers.partsOfItem("second", bins, 1, 3, 4, 5, 6, 88, 1);
        refusedEach(answers, EdgesOfNumbers::withTwoItems, "item(0, ..)", ARGUMENT,
                (made, what) -> made.item(0, what), -1, 6, 7, 11, 256);
        refusedEach(answers, EdgesOfNumbers::withTwoItems, "item(1, ..)", ARGUMENT,
                (made, what) -> made.item(1, what), -1, -6, 6, 7, 256);
    }

    private static TileBins withTwoItems() {
        TileBins bins = fieldOf(40, 20, 16);
        bins.put(1, 2, 33, 19, 77);
        bins.put(3, 4, 5, 6, 88);
        return bins;
    }

    private static void tileNumbers(Answers answers) {
        answers.sentence("tile: IllegalArgumentException if there is no such tile ..");
        int[][] fields = {{1, 1, 8}, {40, 20, 16}, {64, 64, 32}, {65, 64, 64}};
        for (int[] field : fields) {
            TileBins bins = new TileBins();
            int tiles = bins.field(field[0], field[1], field[2], 1);
            answers.partsOfTile("first", bins, 0, 0, 0, Math.min(field[0], field[2]),
                    Math.min(field[1], field[2]), 0);
            answers.same("last", bins.tile(tiles - 1, 2), field[0]);
            answers.same("last", bins.tile(tiles - 1, 3), field[1]);
            for (int what = 0; what <= 4; what++) {
                int asked = what;
                refusedEach(answers, () -> fieldOf(field[0], field[1], field[2]),
                        "tile(.., " + what + ")", ARGUMENT, (made, n) -> made.tile(n, asked),
                        -1, tiles, 16384, 1 << 28, -tiles);
            }
        }
        TileBins most = new TileBins();
        most.field(1024, 1024, 8, 1);
        answers.partsOfTile("16384 tiles", most, 16383, 1016, 1016, 1024, 1024, 0);
        answers.refused("tile(16384, 0)", ARGUMENT, () -> most.tile(16384, 0));
    }

    private static void partsOfATile(Answers answers) {
        answers.sentence("tile: IllegalArgumentException if there is no such .. what");
        TileBins bins = withItemInLastTile();
        answers.partsOfTile("last", bins, 5, 32, 16, 40, 20, 1);
        refusedEach(answers, EdgesOfNumbers::withItemInLastTile, "tile(5, ..)", ARGUMENT,
                (made, what) -> made.tile(5, what), -1, 5, 6, 256);
        refusedEach(answers, EdgesOfNumbers::withItemInLastTile, "tile(6, ..)", ARGUMENT,
                (made, what) -> made.tile(6, what), -1, 5);
    }

    private static TileBins withItemInLastTile() {
        TileBins bins = fieldOf(40, 20, 16);
        bins.put(32, 16, 33, 17, 1);
        return bins;
    }

    private static void placesAcross(Answers answers) {
        answers.sentence("tileOf: IllegalArgumentException if it is not in the field (x)");
        int[][] fields = {{1, 1, 8}, {16, 16, 16}, {40, 20, 16}, {1024, 20, 64}};
        for (int[] field : fields) {
            TileBins bins = new TileBins();
            bins.field(field[0], field[1], field[2], 1);
            answers.same("tileOf(0, 0)", bins.tileOf(0, 0), 0);
            answers.same("tileOf(last, 0)", bins.tileOf(field[0] - 1, 0),
                    (field[0] - 1) / field[2]);
            for (int y : new int[] {0, field[1] - 1}) {
                refusedEach(answers, () -> fieldOf(field[0], field[1], field[2]),
                        "tileOf(.., " + y + ")", ARGUMENT, (made, x) -> made.tileOf(x, y),
                        -1, field[0], field[0] + 1, 65536);
            }
        }
    }

    private static void placesDown(Answers answers) {
        answers.sentence("tileOf: IllegalArgumentException if it is not in the field (y)");
        int[][] fields = {{1, 1, 8}, {16, 16, 16}, {40, 20, 16}, {20, 1024, 64}};
        for (int[] field : fields) {
            TileBins bins = new TileBins();
            bins.field(field[0], field[1], field[2], 1);
            int inRow = (field[0] - 1) / field[2] + 1;
            answers.same("tileOf(0, last)", bins.tileOf(0, field[1] - 1),
                    (field[1] - 1) / field[2] * inRow);
            for (int x : new int[] {0, field[0] - 1}) {
                refusedEach(answers, () -> fieldOf(field[0], field[1], field[2]),
                        "tileOf(" + x + ", ..)", ARGUMENT, (made, y) -> made.tileOf(x, y),
                        -1, field[1], field[1] + 1, 65536);
            }
        }
    }

    private static void countNumbers(Answers answers) {
        answers.sentence("count: IllegalArgumentException for another what");
        answers.counts("0 .. 4", withItemAndOpenTile(), 1, 4, 100, 6, 3);
        refusedEach(answers, EdgesOfNumbers::withItemAndOpenTile, "count", ARGUMENT,
                TileBins::count, -1, -2, 5, 6, 256);
    }

    private static TileBins withItemAndOpenTile() {
        TileBins bins = fieldOf(40, 20, 16);
        bins.put(15, 15, 17, 17, 1);
        bins.open(3);
        return bins;
    }

    private static void lastCallOf512(Answers answers) {
        answers.sentence("An object is used for at most 512 calls after it has been made");
        TileBins bins = new TileBins();
        bins.field(1024, 1024, 8, 8192);
        for (int call = 2; call <= 510; call++) {
            answers.same("call " + call, bins.put(0, 0, 1, 1, call), call - 2);
        }
        answers.same("call 511", bins.open(0), 509);
        answers.same("call 512", bins.next(), 0);
    }

    private static TileBins fieldOf(int wide, int high, int side) {
        TileBins bins = new TileBins();
        bins.field(wide, high, side, 100);
        return bins;
    }

    /** The numbers told, and those that lie furthest off, each to an object of its own. */
    private static void refusedEach(Answers answers, Supplier<TileBins> made, String call,
            Class<? extends RuntimeException> due, ObjIntConsumer<TileBins> run, int... numbers) {
        for (int number : numbers) {
            refusedOne(answers, made, call, due, run, number);
        }
        refusedOne(answers, made, call, due, run, Integer.MIN_VALUE);
        refusedOne(answers, made, call, due, run, Integer.MAX_VALUE);
    }

    private static void refusedOne(Answers answers, Supplier<TileBins> made, String call,
            Class<? extends RuntimeException> due, ObjIntConsumer<TileBins> run, int number) {
        answers.refusedUnchanged(
                call + " " + number, made, due, bins -> run.accept(bins, number));
    }
}
