public final class Promise10Count {
    public static void main(String[] args) {
        Answers answers = new Answers();
        TileBins bins = new TileBins();
        bins.field(40, 20, 16, 11);
        answers.counts("field", bins, 0, 0, 11, 6, TileBins.NONE);
        bins.put(15, 15, 17, 17, 0);
        answers.counts("put", bins, 1, 4, 11, 6, TileBins.NONE);
        bins.put(50, 50, 60, 60, 0);
        answers.counts("put outside", bins, 2, 4, 11, 6, TileBins.NONE);
        bins.open(4);
        answers.counts("open", bins, 2, 4, 11, 6, 4);
        bins.next();
        bins.next();
        bins.put(0, 0, 40, 20, 0);
        answers.counts("put with an open tile", bins, 3, 10, 11, 6, 4);
        bins.open(0);
        answers.counts("open another", bins, 3, 10, 11, 6, 0);
        bins.empty();
        answers.counts("empty", bins, 0, 0, 11, 6, TileBins.NONE);

        int[] others = {-1, 5, 6, Integer.MIN_VALUE, Integer.MAX_VALUE};
        for (int what : others) {
            answers.refusedUnchanged("count(" + what + ")", bins, IllegalArgumentException.class,
                    () -> bins.count(what));
        }
        answers.end();
    }
}
