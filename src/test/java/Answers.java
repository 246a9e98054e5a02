import java.util.ArrayList;
import java.util.List;
import java.util.function.Consumer;
import java.util.function.Supplier;
import java.util.stream.IntStream;

/** Compares answers with those that are due, and tells those that differ. */
final class Answers {
    private int wrong = 0;
    private String sentence = "";

    /** What follows tests this sentence of the document. */
    void sentence(String words) {
        sentence = "\"" + words + "\": ";
    }

    void same(String call, Object got, Object due) {
        if (!got.equals(due)) {
            wrong++;
            System.out.println(sentence + call + " answered " + got + ", due is " + due);
        }
    }

    /** The very class is due: the machine's own exceptions are under IndexOutOfBoundsException. */
    void refused(String call, Class<? extends RuntimeException> due, Runnable run) {
        same(call, thrownBy(run), due.getSimpleName());
    }

    /** The call throws, and all that can be seen of the object stays. */
    void refusedUnchanged(
            String call, TileBins bins, Class<? extends RuntimeException> due, Runnable run) {
        List<Integer> before = seen(bins);
        refused(call, due, run);
        same("after " + call + " all", seen(bins), before);
    }

    /** The same of an object that is made for this call alone, where many calls are to be refused. */
    void refusedUnchanged(String call, Supplier<TileBins> made,
            Class<? extends RuntimeException> due, Consumer<TileBins> run) {
        TileBins bins = made.get();
        refusedUnchanged(call, bins, due, () -> run.accept(bins));
    }

    void partsOfItem(String call, TileBins bins, int n, int... due) {
        for (int what = 0; what < due.length; what++) {
            same(call + ": item(" + n + ", " + what + ")", bins.item(n, what), due[what]);
        }
    }

    void partsOfTile(String call, TileBins bins, int n, int... due) {
        for (int what = 0; what < due.length; what++) {
            same(call + ": tile(" + n + ", " + what + ")", bins.tile(n, what), due[what]);
        }
    }

    void counts(String call, TileBins bins, int... due) {
        for (int what = 0; what < due.length; what++) {
            same(call + ": count(" + what + ")", bins.count(what), due[what]);
        }
    }

    /** The items that come from here on, and one NONE behind them. */
    void comes(String call, TileBins bins, int... due) {
        for (int n : due) {
            same(call + ": next()", bins.next(), n);
        }
        same(call + ": next() behind the last", bins.next(), TileBins.NONE);
    }

    void end() {
        System.out.println(wrong == 0 ? "all answers are as due" : wrong + " answers are not as due");
        if (wrong != 0) {
            System.exit(1);
        }
    }

    private static String thrownBy(Runnable run) {
        try {
            run.run();
        } catch (RuntimeException e) {
            return e.getClass().getSimpleName();
        }
        return "nothing";
    }

    private static List<Integer> seen(TileBins bins) {
        List<Integer> all = new ArrayList<>();
        for (int what = 0; what <= 4; what++) {
            all.add(bins.count(what));
        }
        for (int n : endsOf(all.get(0))) {
            for (int what = 0; what <= 5; what++) {
                all.add(bins.item(n, what));
            }
        }
        for (int n : endsOf(all.get(3))) {
            for (int what = 0; what <= 4; what++) {
                all.add(bins.tile(n, what));
            }
        }
        return all;
    }

    /** The first and the last few, since an object is promised for no more than 512 calls. */
    private static int[] endsOf(int many) {
        return IntStream.range(0, many).filter(n -> n < 6 || n >= many - 6).toArray();
    }
}
