public final class Promise05Open {
    public static void main(String[] args) {
        Answers answers = new Answers();
        TileBins bins = new TileBins();
        bins.field(40, 20, 16, 20);
        bins.put(15, 15, 17, 17, 0);
        bins.put(0, 0, 16, 16, 1);
        bins.put(16, 0, 32, 16, 2);
        bins.put(100, 100, 200, 200, 3);
        int[] due = {2, 2, 0, 1, 1, 0};
        for (int tile = 0; tile < due.length; tile++) {
            answers.same("open(" + tile + ")", bins.open(tile), due[tile]);
            answers.same("count(4)", bins.count(4), tile);
        }

        bins.open(0);
        answers.same("next()", bins.next(), 0);
        answers.same("open(0) again", bins.open(0), 2);
        answers.comes("opened again", bins, 0, 1);
        answers.same("open(1) behind the last", bins.open(1), 2);
        answers.comes("another tile", bins, 0, 2);
        answers.same("open(0) behind the last", bins.open(0), 2);
        answers.comes("the first tile again", bins, 0, 1);

        wrongInputs(answers);

        bins.field(1024, 1024, 8, 1);
        bins.put(1023, 1023, 1024, 1024, 0);
        answers.same("open(16383)", bins.open(16383), 1);
        answers.refused("open(16384)", IllegalArgumentException.class, () -> bins.open(16384));
        answers.end();
    }

    private static void wrongInputs(Answers answers) {
        int[] none = {-1, 6, 7, Integer.MIN_VALUE, Integer.MAX_VALUE};
        for (int tile : none) {
            TileBins bins = new TileBins();
            bins.field(40, 20, 16, 20);
            bins.put(15, 15, 17, 17, 0);
            bins.put(0, 0, 16, 16, 1);
            bins.open(0);
            bins.next();
            answers.refusedUnchanged("open(" + tile + ")", bins, IllegalArgumentException.class,
                    () -> bins.open(tile));
            answers.comes("after a refused open", bins, 1);
        }
    }
}
