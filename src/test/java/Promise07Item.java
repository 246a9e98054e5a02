public final class Promise07Item {
    private static final int LOW = Integer.MIN_VALUE;
    private static final int TOP = Integer.MAX_VALUE;

    public static void main(String[] args) {
        Answers answers = new Answers();
        TileBins bins = new TileBins();
        bins.field(40, 20, 16, 100);
        check(answers, bins, new int[] {3, 4, 20, 17, 9}, 3, 4, 20, 17, 9, 4);
        check(answers, bins, new int[] {0, 0, 40, 20, LOW}, 0, 0, 40, 20, LOW, 6);
        check(answers, bins, new int[] {LOW, LOW, TOP, TOP, TOP}, 0, 0, 40, 20, TOP, 6);
        check(answers, bins, new int[] {-5, 18, 1, 90, -1}, 0, 18, 1, 20, -1, 1);
        check(answers, bins, new int[] {39, 19, 41, 21, 0}, 39, 19, 40, 20, 0, 1);
        check(answers, bins, new int[] {15, 0, 16, 16, 1}, 15, 0, 16, 16, 1, 1);
        check(answers, bins, new int[] {16, 16, 32, 20, 1}, 16, 16, 32, 20, 1, 1);
        check(answers, bins, new int[] {15, 15, 33, 16, 1}, 15, 15, 33, 16, 1, 3);
        check(answers, bins, new int[] {40, 0, 41, 20, 2}, 0, 0, 0, 0, 2, 0);
        check(answers, bins, new int[] {5, 20, 9, 30, 3}, 0, 0, 0, 0, 3, 0);
        check(answers, bins, new int[] {5, 5, 5, 9, 4}, 0, 0, 0, 0, 4, 0);
        check(answers, bins, new int[] {5, 9, 8, 9, 5}, 0, 0, 0, 0, 5, 0);
        check(answers, bins, new int[] {9, 3, 8, 9, 6}, 0, 0, 0, 0, 6, 0);
        check(answers, bins, new int[] {TOP, TOP, LOW, LOW, 7}, 0, 0, 0, 0, 7, 0);
        check(answers, bins, new int[] {LOW, 0, 0, 20, 8}, 0, 0, 0, 0, 8, 0);
        wrongInputs(answers);
        answers.end();
    }

    private static void check(Answers answers, TileBins bins, int[] a, int... due) {
        int n = bins.put(a[0], a[1], a[2], a[3], a[4]);
        answers.partsOfItem("item " + n, bins, n, due);
    }

    private static void wrongInputs(Answers answers) {
        int[] none = {-1, 2, 3, 4095, 4096, LOW, TOP, 715827883};
        for (int n : none) {
            answers.refusedUnchanged("item(" + n + ", 0)", Promise07Item::twoItems,
                    IndexOutOfBoundsException.class, bins -> bins.item(n, 0));
            // Where both are wrong, the item is looked at first: so the document names them.
            answers.refusedUnchanged("item(" + n + ", 6)", Promise07Item::twoItems,
                    IndexOutOfBoundsException.class, bins -> bins.item(n, 6));
        }
        int[] others = {-1, 6, 7, LOW, TOP};
        for (int what : others) {
            answers.refusedUnchanged("item(0, " + what + ")", Promise07Item::twoItems,
                    IllegalArgumentException.class, bins -> bins.item(0, what));
            answers.refusedUnchanged("item(1, " + what + ")", Promise07Item::twoItems,
                    IllegalArgumentException.class, bins -> bins.item(1, what));
        }
    }

    private static TileBins twoItems() {
        TileBins bins = new TileBins();
        bins.field(40, 20, 16, 100);
        bins.put(3, 4, 20, 17, 9);
        bins.put(0, 0, 40, 20, LOW);
        return bins;
    }
}
