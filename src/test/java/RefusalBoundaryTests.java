import java.util.ArrayList;
import java.util.List;
import java.util.function.ToLongFunction;

/** Calls that are refused: which answer comes first, and that nothing is changed by them. */
public final class RefusalBoundaryTests extends Checks {
    private static final int TEST_NODE = 4, FULL_BOOL = 5, EMPTY_BEST = 6, SET_NODE = 7, BARE_KEPT = 8, WANTS_NEW = 14;

    /**
     * An object in the midst of its work: LIST 0 is full, a BOOL has 8 PARTS, there are a SET and a KEPT without one,
     * FOUND, a latest SCORE, ITERATORS (all of them, or without the last two), one of them over; and so many NODES.
     */
    private static BooleanRuns busy(int nodes, int iterators) {
        BooleanRuns x = new BooleanRuns();
        for (int i = 0; i < 60; i++) x.put(0, i, i);
        x.put(1, 3, 30);
        x.put(1, 511, 40);
        x.node(LIST, 0, 0);
        x.node(LIST, 1, 0);
        x.node(RANGE, 3, 70);
        x.node(NOTHING, 0, 0);
        x.node(TEST, 0, test(1, 2, 1));
        group(x, BOOL, 1, MUST, 4, FILTER, 2, NOT, 1, NOT, 3, SHOULD, 0, SHOULD, 4, SHOULD, 1, SHOULD, 3);
        x.node(BEST, 30, 0);
        x.node(KEPT, 5, 0);
        x.node(KEPT, 4, 0);
        for (int list = 0; list < 2; list++) x.node(CONSTANT, x.node(CONSTANT, list, 1), 2);
        x.node(BOOL, 0, 0);
        group(x, BEST, 0, SHOULD, 10, SHOULD, 12);
        while (x.sum(0) < nodes) x.node(RANGE, 9, 9);
        x.keep(SET_NODE);
        x.look(FULL_BOOL, 6);
        x.run(1);
        for (int i = 0; i < iterators; i++) x.open(i % 3);
        x.next(0, 20);
        x.next(1, 0);
        x.next(1, 0);
        x.next(1, 0);
        return x;
    }

    /** All that can be seen of an object with some 250 calls; the last of them change it. */
    private static List<Long> seen(BooleanRuns x) {
        List<Long> all = new ArrayList<>();
        for (int what = 0; what <= 4; what++) all.add((long) x.sum(what));
        all.add(x.scored());
        for (int k = 0; k < 3; k++) {
            all.add((long) x.found(k));
            all.add(x.score(k));
        }
        for (int node = 0; node <= WANTS_NEW; node++) {
            for (int what = 0; what <= 6; what++) all.add((long) x.told(node, what));
        }
        for (int i = 0; i < 8; i++) {
            all.add((long) x.partOf(FULL_BOOL, i, 0));
            all.add((long) x.partOf(FULL_BOOL, i, 1));
        }
        for (int node = 4; node <= 8; node++) {
            for (int object : row(0, 3, 6)) {
                all.add(x.may(node, object) ? 1L : 0L);
                all.add(x.sure(node, object) ? 1L : 0L);
            }
        }
        for (int i = 0; i < 8; i++) {
            all.add((long) x.next(i, 0));
            all.add((long) x.close(i));
        }
        int made = x.node(BOOL, 3, 0);
        for (int what = 0; what <= 6; what++) all.add((long) x.told(made, what));
        all.add((long) x.run(0));
        for (int k = 0; k < 60; k += 7) all.add(x.score(k));
        all.add((long) x.take(1, 3));
        all.add((long) x.take(1, 511));
        return all;
    }

    private static void dueRefused(String call, int nodes, int iterators, ToLongFunction<BooleanRuns> refused, long want) {
        BooleanRuns x = busy(nodes, iterators);
        due(call, refused.applyAsLong(x), want);
        due(call + " again", refused.applyAsLong(x), want);
        List<Long> with = seen(x);
        List<Long> without = seen(busy(nodes, iterators));
        for (int i = 0; i < without.size(); i++) due("what is seen at " + i + " after " + call, with.get(i), without.get(i));
    }

    private static void dueRefused(String call, ToLongFunction<BooleanRuns> refused, long want) {
        dueRefused(call, 40, 6, refused, want);
    }

    private static void refusedLists() {
        sentence("What is refused changes nothing. (put, take)");
        dueRefused("put(-1, 3, 1)", x -> x.put(-1, 3, 1), BAD);
        dueRefused("put(16, 3, 1)", x -> x.put(16, 3, 1), BAD);
        dueRefused("put(1, -1, 1)", x -> x.put(1, -1, 1), BAD);
        dueRefused("put(1, 512, 1)", x -> x.put(1, 512, 1), BAD);
        dueRefused("put(1, 3, -1)", x -> x.put(1, 3, -1), BAD);
        dueRefused("put(1, 3, 1000001)", x -> x.put(1, 3, 1000001), BAD);
        dueRefused("put(0, 60, 1)", x -> x.put(0, 60, 1), FULL);
        dueRefused("take(-1, 3)", x -> x.take(-1, 3), BAD);
        dueRefused("take(16, 3)", x -> x.take(16, 3), BAD);
        dueRefused("take(0, -1)", x -> x.take(0, -1), BAD);
        dueRefused("take(0, 512)", x -> x.take(0, 512), BAD);
        dueRefused("take(0, 60)", x -> x.take(0, 60), STATE);
    }

    private static void refusedNodes() {
        sentence("What is refused changes nothing. (node, part)");
        dueRefused("node(8, 0, 0)", x -> x.node(8, 0, 0), BAD);
        dueRefused("node(0, 16, 0)", x -> x.node(LIST, 16, 0), BAD);
        dueRefused("node(1, 5, 4)", x -> x.node(RANGE, 5, 4), BAD);
        dueRefused("node(2, 9, 0)", x -> x.node(BOOL, 9, 0), BAD);
        dueRefused("node(3, 101, 0)", x -> x.node(BEST, 101, 0), BAD);
        dueRefused("node(4, 40, 0)", x -> x.node(CONSTANT, 40, 0), BAD);
        dueRefused("node(5, 0, 0)", x -> x.node(TEST, 0, 0), BAD);
        dueRefused("node(6, 40, 0)", x -> x.node(KEPT, 40, 0), BAD);
        dueRefused("node(7, 0, 0) when full", 80, 6, x -> x.node(NOTHING, 0, 0), FULL);
        dueRefused("part of a KEPT", x -> x.part(SET_NODE, MUST, 0), BAD);
        dueRefused("part of a TEST", x -> x.part(TEST_NODE, MUST, 0), BAD);
        dueRefused("part of a BEST as MUST", x -> x.part(EMPTY_BEST, MUST, 0), BAD);
        dueRefused("part of itself", x -> x.part(EMPTY_BEST, SHOULD, EMPTY_BEST), BAD);
        dueRefused("part made later", x -> x.part(EMPTY_BEST, SHOULD, SET_NODE), BAD);
        dueRefused("a ninth part", x -> x.part(FULL_BOOL, MUST, 0), FULL);
    }

    private static void refusedLooks() {
        sentence("What is refused changes nothing. (look, run, keep, and what only tells)");
        dueRefused("look(40, 3)", x -> x.look(40, 3), BAD);
        dueRefused("look(0, 512)", x -> x.look(0, 512), BAD);
        dueRefused("look(0, 60), which answers 0", x -> x.look(0, 60), 0);
        dueRefused("run(40)", x -> x.run(40), BAD);
        dueRefused("run(-1)", x -> x.run(-1), BAD);
        dueRefused("keep of a TEST", x -> x.keep(TEST_NODE), BAD);
        dueRefused("keep of none", x -> x.keep(40), BAD);
        dueRefused("keep where a SET is", x -> x.keep(SET_NODE), STATE);
        dueRefused("told(0, 7)", x -> x.told(0, 7), BAD);
        dueRefused("partOf(5, 8, 0)", x -> x.partOf(FULL_BOOL, 8, 0), BAD);
        dueRefused("may(40, 0)", x -> x.may(40, 0) ? 1 : 0, 0);
        dueRefused("sure(0, 512)", x -> x.sure(0, 512) ? 1 : 0, 0);
        dueRefused("found(2)", x -> x.found(2), NONE);
        dueRefused("score(2)", x -> x.score(2), 0);
        dueRefused("sum(5)", x -> x.sum(5), BAD);
    }

    private static void refusedIterators() {
        sentence("What is refused changes nothing. (open, next, close)");
        dueRefused("open(40)", x -> x.open(40), BAD);
        dueRefused("open(-1)", x -> x.open(-1), BAD);
        dueRefused("a ninth open", 40, 8, x -> x.open(0), FULL);
        dueRefused("next(6, 0), not open", x -> x.next(6, 0), BAD);
        dueRefused("next(8, 0)", x -> x.next(8, 0), BAD);
        dueRefused("next(0, -1)", x -> x.next(0, -1), BAD);
        dueRefused("next(0, 512)", x -> x.next(0, 512), BAD);
        dueRefused("next(2, 512), ahead of all", x -> x.next(2, 512), BAD);
        dueRefused("next(1, 0), over", x -> x.next(1, 0), NONE);
        dueRefused("close(6), not open", x -> x.close(6), BAD);
        dueRefused("close(8)", x -> x.close(8), BAD);
        dueRefused("close(-1)", x -> x.close(-1), BAD);
    }

    private static void refusedRewrites() {
        sentence("What is refused changes nothing. (rewrite)");
        dueRefused("rewrite(40)", x -> x.rewrite(40), BAD);
        dueRefused("rewrite(-1)", x -> x.rewrite(-1), BAD);
        for (int nodes = 78; nodes <= 80; nodes++) {
            dueRefused("three are wanted with " + nodes, nodes, 6, x -> x.rewrite(WANTS_NEW), FULL);
        }
    }

    private static void badFirst() {
        sentence("Answers below 0: BAD ..; FULL ..; STATE ..; of these the first.");
        BooleanRuns x = busy(80, 8);
        due("put: BAD, then FULL", x.put(0, 60, -1), BAD);
        due("put: BAD, then FULL", x.put(0, 600, 1), BAD);
        due("take: BAD, then STATE", x.take(0, 600), BAD);
        due("node: BAD, then FULL", x.node(LIST, 16, 0), BAD);
        due("node: BAD, then FULL", x.node(RANGE, 2, 1), BAD);
        due("node: BAD, then FULL", x.node(BOOL, 9, 0), BAD);
        due("node: BAD, then FULL", x.node(BEST, 101, 0), BAD);
        due("node: BAD, then FULL", x.node(CONSTANT, 80, 0), BAD);
        due("node: BAD, then FULL", x.node(CONSTANT, 0, -1), BAD);
        due("node: BAD, then FULL", x.node(TEST, 0, 0), BAD);
        due("node: BAD, then FULL", x.node(KEPT, 80, 0), BAD);
        due("node: BAD, then FULL", x.node(8, 0, 0), BAD);
        due("part: BAD, then FULL", x.part(FULL_BOOL, 4, 0), BAD);
        due("part: BAD, then FULL", x.part(FULL_BOOL, MUST, FULL_BOOL), BAD);
        due("open: BAD, then FULL", x.open(80), BAD);
        due("rewrite: BAD, then FULL", x.rewrite(80), BAD);
        due("keep: BAD, then STATE", x.keep(TEST_NODE), BAD);
        due("FULL by itself", x.put(0, 60, 1), FULL);
        due("FULL by itself", x.node(NOTHING, 0, 0), FULL);
        due("FULL by itself", x.part(FULL_BOOL, MUST, 0), FULL);
        due("FULL by itself", x.open(0), FULL);
        due("FULL by itself", x.rewrite(WANTS_NEW), FULL);
        due("STATE by itself", x.take(0, 60), STATE);
        due("STATE by itself", x.keep(SET_NODE), STATE);
        due("none of them", x.keep(BARE_KEPT), 30);
    }

    private static void constants() {
        sentence("NONE = -1, BAD = -2, FULL = -3, STATE = -4");
        due("NONE", BooleanRuns.NONE, -1);
        due("BAD", BooleanRuns.BAD, -2);
        due("FULL", BooleanRuns.FULL, -3);
        due("STATE", BooleanRuns.STATE, -4);
    }

    /** Every call with every number of a row of wild ones, in every place: none may throw. */
    private static void wildCalls() {
        sentence("BAD: there is no such thing, or a number is not as told");
        int[] wild = {MIN, MIN + 1, -1000000, -513, -512, -81, -9, -1, 1000001, 1000000000, MAX - 1, MAX};
        for (int w : wild) {
            BooleanRuns x = busy(40, 6);
            due("put", x.put(w, 1, 1) + x.put(1, w, 1) + x.put(1, 1, w), 3 * BAD);
            due("take", x.take(w, 1) + x.take(1, w), 2 * BAD);
            due("node", x.node(w, 0, 0) + x.node(LIST, w, 0) + x.node(RANGE, w, w) + x.node(BOOL, w, 0), 4 * BAD);
            due("node", x.node(BEST, w, 0) + x.node(CONSTANT, w, 0) + x.node(TEST, w, 1000) + x.node(KEPT, w, 0), 4 * BAD);
            due("node", x.node(CONSTANT, 0, w) + x.node(TEST, 0, w), 2 * BAD);
            due("part", x.part(w, SHOULD, 0) + x.part(EMPTY_BEST, w, 0) + x.part(EMPTY_BEST, SHOULD, w), 3 * BAD);
            due("told", x.told(w, 0) + x.told(0, w), 2 * BAD);
            due("partOf", x.partOf(w, 0, 0) + x.partOf(FULL_BOOL, w, 0) + x.partOf(FULL_BOOL, 0, w), 3 * BAD);
            due("may", x.may(w, 3) || x.may(2, w), false);
            due("sure", x.sure(w, 3) || x.sure(2, w), false);
            due("look", x.look(w, 3) + x.look(2, w), 2 * BAD);
            due("run", x.run(w), BAD);
            due("found", x.found(w), NONE);
            due("score", x.score(w), 0);
            due("keep", x.keep(w), BAD);
            due("open", x.open(w), BAD);
            due("next", x.next(w, 0) + x.next(0, w), 2 * BAD);
            due("close", x.close(w), BAD);
            due("rewrite", x.rewrite(w), BAD);
            due("sum", x.sum(w), BAD);
        }
    }

    public static void main(String[] args) {
        refusedLists();
        refusedNodes();
        refusedLooks();
        refusedIterators();
        refusedRewrites();
        badFirst();
        constants();
        wildCalls();
        finish("RefusalBoundaryTests");
    }
}
