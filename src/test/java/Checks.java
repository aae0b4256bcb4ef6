/** What the tests that were worked out by hand have in common. */
class Checks {
    static final int NONE = -1, BAD = -2, FULL = -3, STATE = -4;
    static final int LIST = 0, RANGE = 1, BOOL = 2, BEST = 3, CONSTANT = 4, TEST = 5, KEPT = 6, NOTHING = 7;
    static final int MUST = 0, FILTER = 1, NOT = 2, SHOULD = 3;
    static final int MIN = Integer.MIN_VALUE, MAX = Integer.MAX_VALUE;
    static final int[] WILD = {-1, MIN, MAX};

    private static String words = "";
    private static int sentences = 0;
    private static int checks = 0;
    private static int wrong = 0;

    /** The words of the document that the checks from here on are of. */
    static void sentence(String ofDocument) {
        words = ofDocument;
        sentences++;
    }

    static void due(String what, long got, long want) {
        checks++;
        if (got != want) {
            wrong++;
            System.out.println("[" + words + "] " + what + " answered " + got + ", due is " + want);
        }
    }

    static void due(String what, boolean got, boolean want) {
        due(what, got ? 1 : 0, want ? 1 : 0);
    }

    static void finish(String name) {
        System.out.println(name + ": " + sentences + " sentences, " + checks + " checks, " + wrong + " wrong");
        if (wrong > 0) System.exit(1);
    }

    /** A NODE with PARTS given as ROLE, NODE, ROLE, NODE. */
    static int group(BooleanRuns x, int kind, int number, int... parts) {
        int node = x.node(kind, number, 0);
        for (int i = 0; i < parts.length; i += 2) {
            x.part(node, parts[i], parts[i + 1]);
        }
        return node;
    }

    /** The same PART a number of times, as group() and dueParts() take it. */
    static int[] times(int many, int role, int part) {
        int[] all = new int[2 * many];
        for (int i = 0; i < many; i++) {
            all[2 * i] = role;
            all[2 * i + 1] = part;
        }
        return all;
    }

    static int[] joined(int[]... rows) {
        int length = 0;
        for (int[] row : rows) length += row.length;
        int[] all = new int[length];
        int at = 0;
        for (int[] row : rows) {
            for (int n : row) all[at++] = n;
        }
        return all;
    }

    static int[] row(int... numbers) {
        return numbers;
    }

    static void dueParts(BooleanRuns x, int node, int kind, int number, int... parts) {
        due("kind of " + node, x.told(node, 0), kind);
        due("number of " + node, x.told(node, 1), number);
        due("parts of " + node, x.told(node, 3), parts.length / 2);
        for (int i = 0; i < parts.length / 2; i++) {
            due("role " + i + " of " + node, x.partOf(node, i, 0), parts[2 * i]);
            due("part " + i + " of " + node, x.partOf(node, i, 1), parts[2 * i + 1]);
        }
    }

    static void dueFound(BooleanRuns x, int node, long... objectsAndScores) {
        due("run(" + node + ")", x.run(node), objectsAndScores.length / 2);
        for (int k = 0; k < objectsAndScores.length / 2; k++) {
            due("found(" + k + ") by " + node, x.found(k), objectsAndScores[2 * k]);
            due("score(" + k + ") by " + node, x.score(k), objectsAndScores[2 * k + 1]);
        }
    }

    static void dueBounds(BooleanRuns x, String what, int node, int object, boolean may, boolean sure) {
        due("may of " + what, x.may(node, object), may);
        due("sure of " + what, x.sure(node, object), sure);
    }

    /** The second number of a TEST. */
    static int test(int a, int m, int r) {
        return a * 1000000 + m * 1000 + r;
    }

    /** A TEST that all objects pass, though it is never SURE. */
    static int passing(BooleanRuns x, int part) {
        return x.node(TEST, part, test(1, 1, 1));
    }

    /** A TEST that no object passes, though it MAY be. */
    static int failing(BooleanRuns x, int part) {
        return x.node(TEST, part, test(1, 1, 0));
    }

    /** List 0 has 1, 2, 3 with weights 10, 20, 30; list 1 has 2, 3, 4 with 200, 300, 400; list 2 has 3 with 5. */
    static BooleanRuns threeLists() {
        BooleanRuns x = new BooleanRuns();
        for (int o = 1; o <= 3; o++) x.put(0, o, 10 * o);
        for (int o = 2; o <= 4; o++) x.put(1, o, 100 * o);
        x.put(2, 3, 5);
        for (int list = 0; list < 3; list++) x.node(LIST, list, 0);
        return x;
    }
}
