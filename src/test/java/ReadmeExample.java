/** The example of README.md, line by line, with the answers that its comments tell. */
public final class ReadmeExample {
    public static void main(String[] args) {
        Answers answers = new Answers();
        TileBins bins = new TileBins();
        answers.counts("new", bins, 0, 0, 64, 1, TileBins.NONE);
        answers.same("field(40, 20, 16, 100)", bins.field(40, 20, 16, 100), 6);
        answers.same("put(15, 15, 17, 17, 7)", bins.put(15, 15, 17, 17, 7), 0);
        touches(answers, bins, 1, 1, 0, 1, 1, 0);
        answers.same("put(0, 0, 5, 5, 8)", bins.put(0, 0, 5, 5, 8), 1);
        touches(answers, bins, 2, 1, 0, 1, 1, 0);

        answers.same("open(0)", bins.open(0), 2);
        for (int tag : new int[] {7, 8}) {
            answers.same("tag of the next", bins.item(bins.next(), 4), tag);
        }
        answers.same("next() behind the last", bins.next(), TileBins.NONE);

        answers.same("put(30, 10, 90, 90, 9)", bins.put(30, 10, 90, 90, 9), 2);
        touches(answers, bins, 2, 2, 1, 1, 2, 1);
        answers.same("item(2, 2)", bins.item(2, 2), 40);
        answers.same("tileOf(39, 19)", bins.tileOf(39, 19), 5);
        answers.same("count(1)", bins.count(1), 9);
        bins.empty();
        answers.counts("empty", bins, 0, 0, 100, 6, TileBins.NONE);
        answers.end();
    }

    private static void touches(Answers answers, TileBins bins, int... due) {
        for (int tile = 0; tile < due.length; tile++) {
            answers.same("tile(" + tile + ", 4)", bins.tile(tile, 4), due[tile]);
        }
    }
}
