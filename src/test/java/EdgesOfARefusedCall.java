import java.util.ArrayList;
import java.util.List;
import java.util.function.Consumer;

/**
 * "A call that throws changes nothing": each call that can throw, in states that differ, against a
 * twin that was never asked. The twins are compared to their ends, so that what next() has come to
 * is seen, too.
 */
public final class EdgesOfARefusedCall {
    private static final Class<IllegalArgumentException> ARGUMENT = IllegalArgumentException.class;
    private static final Class<IllegalStateException> STATE = IllegalStateException.class;
    private static final Class<IndexOutOfBoundsException> INDEX = IndexOutOfBoundsException.class;

    private final Answers answers = new Answers();

    public static void main(String[] args) {
        EdgesOfARefusedCall test = new EdgesOfARefusedCall();
        test.inEachState("field: wide", ARGUMENT, bins -> bins.field(0, 9, 8, 9));
        test.inEachState("field: high", ARGUMENT, bins -> bins.field(9, 1025, 8, 9));
        test.inEachState("field: side", ARGUMENT, bins -> bins.field(9, 9, 12, 9));
        test.inEachState("field: cells", ARGUMENT, bins -> bins.field(9, 9, 8, 8193));
        test.inEachState("field: all", ARGUMENT, bins -> bins.field(-1, -1, -1, -1));
        test.inEachState("open: below", ARGUMENT, bins -> bins.open(-1));
        test.inEachState("open: above", ARGUMENT, bins -> bins.open(bins.count(3)));
        test.inEachState("item: below", INDEX, bins -> bins.item(-1, 0));
        test.inEachState("item: above", INDEX, bins -> bins.item(bins.count(0), 0));
        test.inEachState("tile: below", ARGUMENT, bins -> bins.tile(-1, 4));
        test.inEachState("tile: above", ARGUMENT, bins -> bins.tile(bins.count(3), 4));
        test.inEachState("tile: what", ARGUMENT, bins -> bins.tile(0, 5));
        test.inEachState("tileOf: x", ARGUMENT, bins -> bins.tileOf(1024, 0));
        test.inEachState("tileOf: y", ARGUMENT, bins -> bins.tileOf(0, -1));
        test.inEachState("count", ARGUMENT, bins -> bins.count(5));

        Consumer<TileBins> what = bins -> bins.item(0, 6);
        test.inState("item: what", ARGUMENT, what, EdgesOfARefusedCall::someItems);
        test.inState("item: what", ARGUMENT, what, EdgesOfARefusedCall::someHaveCome);
        test.inState("item: what", ARGUMENT, what, EdgesOfARefusedCall::allHaveCome);

        Consumer<TileBins> put = bins -> bins.put(0, 0, 40, 20, 99);
        test.inState("put", STATE, put, EdgesOfARefusedCall::someItems);
        test.inState("put", STATE, put, EdgesOfARefusedCall::someHaveCome);
        test.inState("put", STATE, put, EdgesOfARefusedCall::allHaveCome);

        Consumer<TileBins> next = TileBins::next;
        test.inState("next", STATE, next, bins -> { });
        test.inState("next", STATE, next, EdgesOfARefusedCall::someItems);
        test.inState("next", STATE, next, EdgesOfARefusedCall::emptied);
        test.answers.end();
    }

    // Ten cells: one more item in all six tiles finds the field full.
    private static void someItems(TileBins bins) {
        bins.field(40, 20, 16, 10);
        bins.put(0, 0, 40, 1, 5);
        bins.put(1, 1, 2, 2, 6);
        bins.put(90, 90, 99, 99, 7);
        bins.put(-3, 3, 17, 4, 8);
    }

    private static void someHaveCome(TileBins bins) {
        someItems(bins);
        bins.open(0);
        bins.next();
    }

    private static void allHaveCome(TileBins bins) {
        someItems(bins);
        bins.open(1);
        bins.next();
        bins.next();
        bins.next();
    }

    private static void emptied(TileBins bins) {
        someHaveCome(bins);
        bins.empty();
    }

    private void inEachState(
            String call, Class<? extends RuntimeException> due, Consumer<TileBins> refused) {
        inState(call, due, refused, bins -> { });
        inState(call, due, refused, EdgesOfARefusedCall::someItems);
        inState(call, due, refused, EdgesOfARefusedCall::someHaveCome);
        inState(call, due, refused, EdgesOfARefusedCall::allHaveCome);
        inState(call, due, refused, EdgesOfARefusedCall::emptied);
    }

    private void inState(String call, Class<? extends RuntimeException> due,
            Consumer<TileBins> refused, Consumer<TileBins> prepared) {
        answers.sentence("A call that throws changes nothing (" + call + ")");
        TileBins asked = new TileBins();
        TileBins twin = new TileBins();
        prepared.accept(asked);
        prepared.accept(twin);
        answers.refused(call, due, () -> refused.accept(asked));
        answers.refused(call + " again", due, () -> refused.accept(asked));
        answers.refusedUnchanged(call + " once more", asked, due, () -> refused.accept(asked));
        answers.same(call + ": the end", toTheEnd(asked), toTheEnd(twin));
    }

    /** What comes yet, then a new item, then what comes of it, then each tile from its start. */
    private static List<Integer> toTheEnd(TileBins bins) {
        List<Integer> seen = new ArrayList<>();
        comeYet(bins, seen);
        seen.add(bins.put(0, 0, 17, 1, 44));
        comeYet(bins, seen);
        for (int what = 0; what <= 4; what++) {
            seen.add(bins.count(what));
        }
        for (int tile = 0; tile < bins.count(3); tile++) {
            seen.add(bins.open(tile));
            comeYet(bins, seen);
        }
        return seen;
    }

    private static void comeYet(TileBins bins, List<Integer> seen) {
        if (bins.count(4) == TileBins.NONE) {
            return;
        }
        int n;
        do {
            n = bins.next();
            seen.add(n);
        } while (n != TileBins.NONE && seen.size() < 400);
    }
}
