import java.util.ArrayList;
import java.util.List;

/** Long runs of calls, drawn from fixed seeds, answered by BooleanRuns and by Model: they must answer alike. */
public final class ModelTests {
    private static final int[] EDGES = {
        0, 1, -1, 2, 7, 8, 15, 16, 59, 60, 63, 64, 79, 80, 81, 100, 101, 511, 512, 999999, 1000000, 1000001,
        999999999, 1000000000, Integer.MAX_VALUE, Integer.MIN_VALUE, Integer.MIN_VALUE + 1};

    private long seed;
    private final BooleanRuns real = new BooleanRuns();
    private final Model model = new Model();
    private final List<String> told = new ArrayList<>();
    private final int wild;
    private final int objects;
    private final int listCount;
    private final int manyNodes;

    private ModelTests(long seed) {
        this.seed = seed * 0x9E3779B97F4A7C15L + 12345;
        wild = below(3) == 0 ? 10 : 60;
        objects = below(2) == 0 ? 12 : 90;
        listCount = 1 + below(5);
        manyNodes = 4 + below(76);
    }

    private int below(int n) {
        seed = seed * 6364136223846793005L + 1442695040888963407L;
        return (int) Math.floorMod(seed >>> 33, (long) n);
    }

    private int edge() {
        return EDGES[below(EDGES.length)];
    }

    private int maybeWild(int plain) {
        return below(wild) == 0 ? edge() : plain;
    }

    private int object() {
        int o = below(objects);
        return maybeWild(below(6) == 0 ? new int[] {63, 64, 127, 128, 510, 511}[below(6)] : o);
    }

    private int list() {
        return maybeWild(below(listCount));
    }

    private int anyNode() {
        int count = Math.max(1, model.sum(0));
        return maybeWild(below(3) == 0 ? count - 1 - below(Math.min(count, 4)) : below(count));
    }

    private int weight() {
        return maybeWild(below(4) == 0 ? 1000000 - below(3) : below(50));
    }

    private int[] nodeArguments() {
        int kind = maybeWild(new int[] {0, 0, 0, 1, 2, 2, 2, 2, 2, 3, 3, 4, 5, 5, 6, 6, 7}[below(17)]);
        int from = object();
        switch (kind) {
            case 0: return new int[] {kind, list(), edge()};
            case 1: return new int[] {kind, from, below(9) == 0 ? object() : Math.max(from, Math.min(511, from + below(40)))};
            case 2: return new int[] {kind, maybeWild(below(10) == 0 ? below(9) : below(3)), edge()};
            case 3: return new int[] {kind, maybeWild(below(101)), edge()};
            case 4: return new int[] {kind, anyNode(), weight()};
            case 5: return new int[] {kind, anyNode(), maybeWild((below(12) * 1000 + 1 + below(9)) * 1000 + below(8))};
            default: return new int[] {kind, anyNode(), edge()};
        }
    }

    private int[] partArguments() {
        int count = model.sum(0);
        int node = anyNode();
        for (int tries = 0; tries < 12 && model.told(node, 0) != 2 && model.told(node, 0) != 3; tries++) {
            node = count == 0 ? 0 : below(count);
        }
        int role = model.told(node, 0) == 3 ? 3 : new int[] {0, 0, 1, 1, 2, 3, 3}[below(7)];
        int part = node > 0 ? below(node) : 0;
        if (below(3) == 0 && node > 3) part = node - 1 - below(3);
        return new int[] {node, maybeWild(role), maybeWild(part)};
    }

    private int keptNode() {
        int node = anyNode();
        for (int tries = 0; tries < 20 && model.told(node, 0) != 6; tries++) {
            node = anyNode();
        }
        return node;
    }

    /** What kind of call, then its arguments. */
    private int[] draw() {
        int dice = below(100);
        int count = model.sum(0);
        if (count < manyNodes && dice < 24) return with(2, nodeArguments());
        if (dice < 40) return with(3, partArguments());
        if (dice < 52) return new int[] {0, list(), object(), weight()};
        if (dice < 55) return new int[] {1, list(), object()};
        if (dice < 60) return new int[] {4, anyNode(), maybeWild(below(7))};
        if (dice < 62) return new int[] {5, anyNode(), maybeWild(below(8)), maybeWild(below(2))};
        if (dice < 65) return new int[] {6 + below(2), anyNode(), object()};
        if (dice < 69) return new int[] {8, anyNode(), object()};
        if (dice < 71) return new int[] {9};
        if (dice < 76) return new int[] {10, anyNode()};
        if (dice < 79) return new int[] {11 + below(2), maybeWild(below(12))};
        if (dice < 83) return new int[] {13, keptNode()};
        if (dice < 85) return new int[] {14, anyNode()};
        if (dice < 90) return new int[] {15, maybeWild(below(4)), maybeWild(below(3) == 0 ? object() : 0)};
        if (dice < 91) return new int[] {16, maybeWild(below(8))};
        if (dice < 96) return new int[] {17, anyNode()};
        return new int[] {18, maybeWild(below(5))};
    }

    private static int[] with(int call, int[] arguments) {
        int[] all = new int[arguments.length + 1];
        all[0] = call;
        System.arraycopy(arguments, 0, all, 1, arguments.length);
        return all;
    }

    private long byReal(int[] c) {
        switch (c[0]) {
            case 0: return real.put(c[1], c[2], c[3]);
            case 1: return real.take(c[1], c[2]);
            case 2: return real.node(c[1], c[2], c[3]);
            case 3: return real.part(c[1], c[2], c[3]);
            case 4: return real.told(c[1], c[2]);
            case 5: return real.partOf(c[1], c[2], c[3]);
            case 6: return real.may(c[1], c[2]) ? 1 : 0;
            case 7: return real.sure(c[1], c[2]) ? 1 : 0;
            case 8: return real.look(c[1], c[2]);
            case 9: return real.scored();
            case 10: return real.run(c[1]);
            case 11: return real.found(c[1]);
            case 12: return real.score(c[1]);
            case 13: return real.keep(c[1]);
            case 14: return real.open(c[1]);
            case 15: return real.next(c[1], c[2]);
            case 16: return real.close(c[1]);
            case 17: return real.rewrite(c[1]);
            default: return real.sum(c[1]);
        }
    }

    private long byModel(int[] c) {
        switch (c[0]) {
            case 0: return model.put(c[1], c[2], c[3]);
            case 1: return model.take(c[1], c[2]);
            case 2: return model.node(c[1], c[2], c[3]);
            case 3: return model.part(c[1], c[2], c[3]);
            case 4: return model.told(c[1], c[2]);
            case 5: return model.partOf(c[1], c[2], c[3]);
            case 6: return model.may(c[1], c[2]) ? 1 : 0;
            case 7: return model.sure(c[1], c[2]) ? 1 : 0;
            case 8: return model.look(c[1], c[2]);
            case 9: return model.scored();
            case 10: return model.run(c[1]);
            case 11: return model.found(c[1]);
            case 12: return model.score(c[1]);
            case 13: return model.keep(c[1]);
            case 14: return model.open(c[1]);
            case 15: return model.next(c[1], c[2]);
            case 16: return model.close(c[1]);
            case 17: return model.rewrite(c[1]);
            default: return model.sum(c[1]);
        }
    }

    private boolean agreeOn(int... call) {
        long want = byModel(call);
        long got = byReal(call);
        told.add(java.util.Arrays.toString(call) + " -> " + got);
        if (got == want) return true;
        System.out.println("due is " + want + " in the last row of:");
        for (String row : told) System.out.println("  " + row);
        return false;
    }

    /** All that can be asked without changing anything. */
    private boolean agreeOnAll() {
        for (int what = 0; what < 5; what++) if (!agreeOn(18, what)) return false;
        for (int n = 0; n < model.sum(0); n++) {
            for (int what = 0; what < 7; what++) if (!agreeOn(4, n, what)) return false;
            for (int i = 0; i < model.told(n, 3); i++) {
                if (!agreeOn(5, n, i, 0) || !agreeOn(5, n, i, 1)) return false;
            }
            for (int o : new int[] {0, 1, 2, 3, 5, 8, 63, 64, 511}) {
                if (!agreeOn(6, n, o) || !agreeOn(7, n, o)) return false;
            }
        }
        for (int k = 0; model.found(k) >= 0; k++) if (!agreeOn(11, k) || !agreeOn(12, k)) return false;
        return agreeOn(9);
    }

    /** LISTS, NODES, PARTS and ITERATORS that have room for little more, or none. */
    private boolean agreeOnFilling() {
        for (int i = 56 + below(5); i > 0; i--) if (!agreeOn(0, 0, i * 8, weight())) return false;
        for (int count = 72 + below(9); model.sum(0) < count;) if (!agreeOn(with(2, nodeArguments()))) return false;
        for (int i = 0; i < 90; i++) if (!agreeOn(with(3, partArguments()))) return false;
        for (int i = 5 + below(4); i > 0; i--) if (!agreeOn(14, anyNode())) return false;
        return true;
    }

    private boolean agreeOnRun(int calls, boolean full) {
        if (full && !agreeOnFilling()) return false;
        for (int i = 0; i < calls; i++) {
            if (!agreeOn(draw())) return false;
            if (i % 64 == 63 && !agreeOnAll()) return false;
        }
        return agreeOnAll() && findsTheSameAnew() && boundsHold();
    }

    /** What is written anew finds the same, with the same SCORES. */
    private boolean findsTheSameAnew() {
        for (int n = real.sum(0) - 1; n >= 0; n--) {
            int anew = real.rewrite(n);
            if (anew < 0) continue;
            List<Long> first = foundBy(n);
            if (!first.equals(foundBy(anew))) {
                System.out.println("node " + n + " and what it is anew, " + anew + ", find not the same, after:");
                for (String row : told) System.out.println("  " + row);
                return false;
            }
        }
        return true;
    }

    private List<Long> foundBy(int node) {
        List<Long> all = new ArrayList<>();
        int many = real.run(node);
        for (int k = 0; k < many; k++) {
            all.add((long) real.found(k));
            all.add(real.score(k));
        }
        return all;
    }

    private boolean boundsHold() {
        for (int n = 0; n < real.sum(0); n++) {
            for (int o = 0; o < 512; o += 1 + o / 32) {
                boolean matches = real.look(n, o) == 1;
                if (real.sure(n, o) && !matches || matches && !real.may(n, o)) {
                    System.out.println("bounds of node " + n + " and object " + o + " do not hold");
                    return false;
                }
            }
        }
        return true;
    }

    public static void main(String[] args) {
        int runs = args.length > 0 ? Integer.parseInt(args[0]) : 400;
        int first = args.length > 1 ? Integer.parseInt(args[1]) : 1;
        int wrong = 0;
        for (int i = first; i < first + runs && wrong < 3; i++) {
            ModelTests t = new ModelTests(i);
            if (!t.agreeOnRun(i % 2 == 0 ? 200 : 500, i % 4 == 0)) {
                wrong++;
                System.out.println("seed " + i);
            }
        }
        System.out.println("ModelTests: " + runs + " runs, " + wrong + " wrong");
        if (wrong > 0) System.exit(1);
    }
}
