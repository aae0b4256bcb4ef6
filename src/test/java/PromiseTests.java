/** For each promise of the document its ordinary answers, its edges and its wrong inputs, worked out by hand. */
public final class PromiseTests extends Checks {
    private static void promise1() {
        sentence("1 new object");
        BooleanRuns x = new BooleanRuns();
        for (int what = 0; what <= 4; what++) due("sum(" + what + ")", x.sum(what), 0);
        for (int list = 0; list < 16; list++) due("take", x.take(list, 0), STATE);
        due("told", x.told(0, 0), BAD);
        due("found", x.found(0), NONE);
        due("score", x.score(0), 0);
        due("scored", x.scored(), 0);
        due("next", x.next(0, 0), BAD);
        due("run", x.run(0), BAD);
        BooleanRuns y = new BooleanRuns();
        x.put(0, 0, 1);
        x.node(LIST, 0, 0);
        due("another object's lists", y.sum(1), 0);
        due("another object's nodes", y.sum(0), 0);
        due("NONE", BooleanRuns.NONE, NONE);
        due("BAD", BooleanRuns.BAD, BAD);
        due("FULL", BooleanRuns.FULL, FULL);
        due("STATE", BooleanRuns.STATE, STATE);
    }

    private static void promise2() {
        sentence("2 put");
        BooleanRuns x = new BooleanRuns();
        due("the first", x.put(15, 511, 1000000), 1);
        due("another weight", x.put(15, 511, 0), 1);
        due("the second", x.put(15, 0, 7), 2);
        due("another list", x.put(0, 0, 7), 1);
        due("the weight that was put last", x.take(15, 511), 0);
        for (int w : WILD) {
            due("list", x.put(w, 0, 0), BAD);
            due("object", x.put(0, w, 0), BAD);
            due("weight", x.put(0, 0, w), BAD);
        }
        due("list 16", x.put(16, 0, 0), BAD);
        due("object 512", x.put(0, 512, 0), BAD);
        due("weight 1000001", x.put(0, 0, 1000001), BAD);
        for (int i = 0; i < 60; i++) due("fill", x.put(3, i * 8, i), i + 1);
        due("the 61st", x.put(3, 1, 0), FULL);
        due("the 61st, bad too", x.put(3, 1, -1), BAD);
        due("one that is there", x.put(3, 472, 99), 60);
        due("another list has room", x.put(4, 1, 0), 1);
        due("its weight", x.take(3, 472), 99);
        due("room again", x.put(3, 1, 5), 60);
        due("in all", x.sum(1), 63);
    }

    private static void promise3() {
        sentence("3 take");
        BooleanRuns x = new BooleanRuns();
        x.put(0, 10, 100);
        x.put(0, 20, 200);
        x.put(0, 30, 300);
        due("from list 1", x.take(1, 10), STATE);
        due("not there", x.take(0, 11), STATE);
        due("the first", x.take(0, 10), 100);
        due("again", x.take(0, 10), STATE);
        due("the last", x.take(0, 30), 300);
        due("how many are left", x.put(0, 20, 201), 1);
        due("the only one", x.take(0, 20), 201);
        for (int w : WILD) {
            due("list", x.take(w, 0), BAD);
            due("object", x.take(0, w), BAD);
        }
        due("list 16", x.take(16, 0), BAD);
        due("object 512", x.take(0, 512), BAD);
        due("in all", x.sum(1), 0);
    }

    private static void promise4() {
        sentence("4 node");
        BooleanRuns x = new BooleanRuns();
        for (int kind = 4; kind <= 6; kind++) due("a part that is not there", x.node(kind, 0, test(1, 1, 1)), BAD);
        due("LIST", x.node(LIST, 15, -5), 0);
        due("its b does not count", x.told(0, 2), 0);
        due("LIST 16", x.node(LIST, 16, 0), BAD);
        due("LIST -1", x.node(LIST, -1, 0), BAD);
        due("RANGE", x.node(RANGE, 0, 511), 1);
        due("RANGE of one", x.node(RANGE, 511, 511), 2);
        due("RANGE backward", x.node(RANGE, 5, 4), BAD);
        due("RANGE from -1", x.node(RANGE, -1, 4), BAD);
        due("RANGE to 512", x.node(RANGE, 0, 512), BAD);
        due("BOOL 8", x.node(BOOL, 8, -7), 3);
        due("BOOL b", x.told(3, 2), 0);
        due("BOOL 9", x.node(BOOL, 9, 0), BAD);
        due("BOOL -1", x.node(BOOL, -1, 0), BAD);
        due("BEST 100", x.node(BEST, 100, 77), 4);
        due("BEST b", x.told(4, 2), 0);
        due("BEST 101", x.node(BEST, 101, 0), BAD);
        due("BEST -1", x.node(BEST, -1, 0), BAD);
        due("CONSTANT", x.node(CONSTANT, 4, 1000000), 5);
        due("CONSTANT 1000001", x.node(CONSTANT, 4, 1000001), BAD);
        due("CONSTANT -1", x.node(CONSTANT, 4, -1), BAD);
        due("CONSTANT of itself", x.node(CONSTANT, 6, 1), BAD);
        due("TEST", x.node(TEST, 0, 999999999), 6);
        due("TEST without m", x.node(TEST, 0, test(5, 0, 5)), BAD);
        due("TEST a above", x.node(TEST, 0, 1000001000), BAD);
        due("TEST below 0", x.node(TEST, 0, -1), BAD);
        due("TEST far below 0", x.node(TEST, 0, Integer.MIN_VALUE), BAD);
        due("TEST a 0, r 0", x.node(TEST, 0, 1000), 7);
        due("KEPT", x.node(KEPT, 7, 9), 8);
        due("KEPT b", x.told(8, 2), 0);
        due("KEPT of itself", x.node(KEPT, 9, 0), BAD);
        due("NOTHING", x.node(NOTHING, -3, 12), 9);
        due("NOTHING a", x.told(9, 1), 0);
        due("NOTHING b", x.told(9, 2), 0);
        due("kind 8", x.node(8, 0, 0), BAD);
        for (int w : WILD) due("kind", x.node(w, 0, 0), BAD);
        for (int i = 10; i < 80; i++) due("fill", x.node(NOTHING, 0, 0), i);
        due("the 81st", x.node(NOTHING, 0, 0), FULL);
        due("the 81st, bad too", x.node(LIST, 16, 0), BAD);
        due("how many", x.sum(0), 80);
    }

    private static void promise5() {
        sentence("5 part");
        BooleanRuns x = new BooleanRuns();
        x.node(LIST, 0, 0);
        x.node(BOOL, 0, 0);
        x.node(BEST, 10, 0);
        x.node(CONSTANT, 0, 1);
        x.node(BOOL, 0, 0);
        due("of a LIST", x.part(0, 0, 0), BAD);
        due("of a CONSTANT", x.part(3, 0, 0), BAD);
        due("of none", x.part(5, 0, 0), BAD);
        due("itself", x.part(1, 0, 1), BAD);
        due("one made later", x.part(1, 0, 2), BAD);
        due("BOOL role 4", x.part(1, 4, 0), BAD);
        due("BOOL role -1", x.part(1, -1, 0), BAD);
        for (int role = 0; role <= 2; role++) due("BEST role " + role, x.part(2, role, 0), BAD);
        due("BEST role 4", x.part(2, 4, 0), BAD);
        for (int w : WILD) {
            due("node", x.part(w, 0, 0), BAD);
            due("role", x.part(1, w, 0), BAD);
            due("part", x.part(1, 0, w), BAD);
        }
        due("BEST", x.part(2, 3, 0), 1);
        due("BEST, the same once more", x.part(2, 3, 0), 2);
        for (int i = 0; i < 8; i++) due("BOOL", x.part(4, i % 4, i % 4), i + 1);
        due("the ninth", x.part(4, 0, 0), FULL);
        due("the ninth, bad too", x.part(4, 0, 4), BAD);
        due("still 8", x.told(4, 3), 8);
        dueParts(x, 4, BOOL, 0, 0, 0, 1, 1, 2, 2, 3, 3, 0, 0, 1, 1, 2, 2, 3, 3);
    }

    private static void promise6() {
        sentence("6 told");
        BooleanRuns x = threeLists();
        int range = x.node(RANGE, 100, 199);
        int bool = group(x, BOOL, 2, SHOULD, 0, SHOULD, 1, NOT, range);
        int best = group(x, BEST, 30, SHOULD, range, SHOULD, 0);
        int constant = x.node(CONSTANT, bool, 17);
        int test = x.node(TEST, constant, test(1, 2, 1));
        int kept = x.node(KEPT, test, 0);
        int nothing = x.node(NOTHING, 0, 0);
        long[][] all = {
            {1, LIST, 1, 0, 0, 3, 0, NONE}, {range, RANGE, 100, 199, 0, 100, 0, NONE},
            {bool, BOOL, 2, 0, 3, 6, 0, NONE}, {best, BEST, 30, 0, 2, 103, 0, NONE},
            {constant, CONSTANT, bool, 17, 1, 6, 0, NONE}, {test, TEST, constant, test(1, 2, 1), 1, 6, 0, NONE},
            {kept, KEPT, test, 0, 1, 6, 0, NONE}, {nothing, NOTHING, 0, 0, 0, 0, 0, NONE}};
        for (long[] row : all) {
            for (int what = 0; what <= 6; what++) due("told(" + row[0] + ", " + what + ")", x.told((int) row[0], what), row[what + 1]);
        }
        due("what 7", x.told(0, 7), BAD);
        for (int w : WILD) {
            due("node", x.told(w, 0), BAD);
            due("what", x.told(0, w), BAD);
        }
        due("a node that is not there", x.told(nothing + 1, 0), BAD);
        due("keep", x.keep(kept), 1);
        due("size of the set", x.told(kept, 6), 1);
        due("cost by the set", x.told(kept, 4), 1);
        due("asked", x.told(test, 5), 2);
        costs();
    }

    private static void costs() {
        BooleanRuns x = threeLists();
        int wide = x.node(RANGE, 0, 511);
        due("RANGE", x.told(wide, 4), 512);
        due("BEST, cut", x.told(group(x, BEST, 0, SHOULD, wide, SHOULD, 0), 4), 512);
        due("BEST of none", x.told(x.node(BEST, 0, 0), 4), 0);
        due("BOOL of none", x.told(x.node(BOOL, 0, 0), 4), 0);
        due("BOOL of SHOULDS, cut", x.told(group(x, BOOL, 0, SHOULD, wide, SHOULD, wide, SHOULD, 0), 4), 512);
        due("BOOL with MUST and FILTER", x.told(group(x, BOOL, 0, MUST, wide, FILTER, 0, NOT, 2, SHOULD, 2), 4), 3);
        due("BOOL with a FILTER alone", x.told(group(x, BOOL, 0, FILTER, wide, SHOULD, 2), 4), 512);
        due("BOOL of NOTS", x.told(group(x, BOOL, 0, NOT, wide), 4), 0);
        due("BOOL with a MUST of cost 0", x.told(group(x, BOOL, 0, MUST, x.node(NOTHING, 0, 0) , SHOULD, 1), 4), 0);
        x.put(0, 500, 1);
        due("a cost goes with its list", x.told(0, 4), 4);
        x.take(0, 500);
        due("and back", x.told(0, 4), 3);
    }

    private static void promise7() {
        sentence("7 partOf");
        BooleanRuns x = threeLists();
        int bool = group(x, BOOL, 0, NOT, 2, FILTER, 0);
        int constant = x.node(CONSTANT, bool, 5);
        due("role", x.partOf(bool, 0, 0), NOT);
        due("node", x.partOf(bool, 0, 1), 2);
        due("the second's role", x.partOf(bool, 1, 0), FILTER);
        due("the second's node", x.partOf(bool, 1, 1), 0);
        due("the one part's role", x.partOf(constant, 0, 0), MUST);
        due("the one part", x.partOf(constant, 0, 1), bool);
        due("no third", x.partOf(bool, 2, 0), BAD);
        due("no second", x.partOf(constant, 1, 0), BAD);
        due("of a LIST", x.partOf(0, 0, 0), BAD);
        due("what 2", x.partOf(bool, 0, 2), BAD);
        due("node 5", x.partOf(5, 0, 0), BAD);
        for (int w : WILD) {
            due("node", x.partOf(w, 0, 0), BAD);
            due("place", x.partOf(bool, w, 0), BAD);
            due("what", x.partOf(bool, 0, w), BAD);
        }
    }

    private static void promises8And9() {
        sentence("8 may, 9 sure");
        BooleanRuns x = threeLists();
        int never = x.node(TEST, 0, test(1, 1, 0));
        dueBounds(x, "LIST", 0, 1, true, true);
        dueBounds(x, "LIST without it", 0, 4, false, false);
        int range = x.node(RANGE, 2, 3);
        dueBounds(x, "RANGE below", range, 1, false, false);
        dueBounds(x, "RANGE", range, 2, true, true);
        dueBounds(x, "RANGE at its end", range, 3, true, true);
        dueBounds(x, "RANGE above", range, 4, false, false);
        dueBounds(x, "TEST", never, 1, true, false);
        dueBounds(x, "TEST of what does not match", never, 4, false, false);
        dueBounds(x, "NOTHING", x.node(NOTHING, 0, 0), 1, false, false);
        dueBounds(x, "CONSTANT", x.node(CONSTANT, never, 1), 1, true, false);
        int best = group(x, BEST, 0, SHOULD, never, SHOULD, 2);
        dueBounds(x, "BEST of one that may", best, 1, true, false);
        dueBounds(x, "BEST of one that is sure", best, 3, true, true);
        dueBounds(x, "BEST", best, 4, false, false);
        dueBounds(x, "BOOL without a TEST", group(x, BOOL, 0, MUST, 0, FILTER, 1), 2, true, true);
        dueBounds(x, "BOOL with a TEST as MUST", group(x, BOOL, 0, MUST, never, FILTER, 1), 2, true, false);
        int not = group(x, BOOL, 0, MUST, 1, NOT, never);
        dueBounds(x, "BOOL with a TEST as NOT", not, 2, true, false);
        dueBounds(x, "BOOL, the NOT may not be", not, 4, true, true);
        dueBounds(x, "BOOL with a sure NOT", group(x, BOOL, 0, MUST, 0, NOT, 2), 3, false, false);
        int two = group(x, BOOL, 2, SHOULD, never, SHOULD, 1, SHOULD, 2);
        dueBounds(x, "BOOL, one SHOULD of two", two, 1, false, false);
        dueBounds(x, "BOOL, two SHOULDS, one sure", two, 2, true, false);
        dueBounds(x, "BOOL, two sure SHOULDS", two, 3, true, true);
        int free = group(x, BOOL, 0, SHOULD, never, NOT, 1);
        dueBounds(x, "BOOL that wants one SHOULD", free, 1, true, false);
        dueBounds(x, "BOOL that has none", free, 511, false, false);
        int kept = x.node(KEPT, never, 0);
        dueBounds(x, "KEPT without a SET", kept, 1, true, false);
        x.keep(kept);
        dueBounds(x, "KEPT with a SET", kept, 1, false, false);
        int some = x.node(KEPT, x.node(TEST, 0, test(1, 2, 1)), 0);
        x.keep(some);
        dueBounds(x, "KEPT with 2 in its SET", some, 2, true, true);
        dueBounds(x, "KEPT without 3 in its SET", some, 3, false, false);
        x.put(0, 9, 9);
        dueBounds(x, "KEPT whose SET went", some, 3, true, false);
        dueBounds(x, "a node that is not there", x.sum(0), 0, false, false);
        int wide = x.node(RANGE, 0, 511);
        dueBounds(x, "object 511", wide, 511, true, true);
        dueBounds(x, "object 512", wide, 512, false, false);
        for (int w : WILD) {
            dueBounds(x, "a wild node", w, 1, false, false);
            dueBounds(x, "a wild object", wide, w, false, false);
        }
        due("nothing was asked by may and sure", x.told(never, 5), 3);
    }

    private static void promise10() {
        sentence("10 look");
        BooleanRuns x = threeLists();
        due("LIST", x.look(0, 1), 1);
        due("LIST without it", x.look(0, 4), 0);
        due("no node", x.look(3, 1), BAD);
        due("object 512", x.look(0, 512), BAD);
        for (int w : WILD) {
            due("node", x.look(w, 1), BAD);
            due("object", x.look(0, w), BAD);
        }
        int test = x.node(TEST, 0, test(5, 7, 3));
        due("5 modulo 7", x.look(test, 1), 0);
        due("10 modulo 7 is not below 3", x.look(test, 2), 0);
        due("15 modulo 7", x.look(test, 3), 1);
        due("not asked of what does not match", x.look(test, 4), 0);
        due("asked", x.told(test, 5), 3);
        int twice = group(x, BOOL, 0, MUST, test, MUST, test, SHOULD, test);
        due("BOOL of one node", x.look(twice, 3), 1);
        due("asked once", x.told(test, 5), 4);
        due("its score thrice", x.scored(), 90);
        orderOfCosts();
        filtersNotsAndShoulds();
        bestAsksAll();
        deepQueries();
    }

    private static void orderOfCosts() {
        BooleanRuns x = threeLists();
        int dear = x.node(TEST, 0, test(1, 1, 0));
        int cheap = x.node(TEST, 2, test(1, 1, 0));
        int like = x.node(TEST, 2, test(1, 1, 1));
        int bool = group(x, BOOL, 0, MUST, dear, FILTER, cheap, FILTER, like);
        due("none", x.look(bool, 3), 0);
        due("the least cost first", x.told(cheap, 5), 1);
        due("not the dear one", x.told(dear, 5), 0);
        due("not the like one behind", x.told(like, 5), 0);
        int other = group(x, BOOL, 0, FILTER, like, MUST, cheap, MUST, dear);
        due("none", x.look(other, 3), 0);
        due("of like costs in order", x.told(like, 5), 1);
        due("then the next", x.told(cheap, 5), 2);
        due("not the dear one", x.told(dear, 5), 0);
        x.put(2, 400, 1);
        x.put(2, 401, 1);
        x.put(2, 402, 1);
        due("none", x.look(bool, 3), 0);
        due("costs go with the lists", x.told(dear, 5), 1);
        due("now dearer", x.told(cheap, 5), 2);
        due("all in all", x.sum(2), 4);
    }

    private static void filtersNotsAndShoulds() {
        BooleanRuns x = threeLists();
        int yes = x.node(TEST, 1, test(1, 1, 1));
        int wide = group(x, BEST, 0, SHOULD, 0, SHOULD, yes);
        int filter = group(x, BOOL, 0, FILTER, wide);
        due("a sure FILTER", x.look(filter, 3), 1);
        due("is not come to", x.told(yes, 5), 0);
        due("an unsure FILTER", x.look(filter, 4), 1);
        due("is come to", x.told(yes, 5), 1);
        int must = group(x, BOOL, 0, MUST, wide);
        due("a sure MUST", x.look(must, 3), 1);
        due("is come to", x.told(yes, 5), 2);
        int not = group(x, BOOL, 0, MUST, 0, NOT, wide);
        due("a sure NOT", x.look(not, 3), 0);
        due("is not come to", x.told(yes, 5), 2);
        int no = x.node(TEST, 1, test(1, 1, 0));
        int nots = group(x, BOOL, 0, MUST, 1, NOT, no, NOT, yes, NOT, no, SHOULD, no);
        due("NOTS in order", x.look(nots, 4), 0);
        due("the first", x.told(no, 5), 1);
        due("till one matches", x.told(yes, 5), 3);
        int no2 = x.node(TEST, 1, test(1, 1, 0));
        int late = group(x, BOOL, 0, NOT, yes, NOT, no2, SHOULD, no2, MUST, 1);
        due("the NOT matches", x.look(late, 4), 0);
        due("those behind are not come to", x.told(no2, 5), 0);
        int fails = group(x, BOOL, 0, SHOULD, yes, NOT, yes, MUST, no);
        due("a MUST fails", x.look(fails, 4), 0);
        due("then neither NOTS nor SHOULDS are come to", x.told(yes, 5), 4);
        int all = group(x, BOOL, 1, SHOULD, 1, SHOULD, yes, SHOULD, no2);
        due("enough SHOULDS", x.look(all, 4), 1);
        due("all SHOULDS are come to", x.told(no2, 5), 1);
        int few = group(x, BOOL, 2, SHOULD, 1, SHOULD, no2);
        due("too few SHOULDS", x.look(few, 4), 0);
        due("an empty BOOL", x.look(x.node(BOOL, 0, 0), 4), 0);
        due("a BOOL of a NOT", x.look(group(x, BOOL, 0, NOT, 0), 4), 0);
        due("a SHOULD is enough", x.look(group(x, BOOL, 0, SHOULD, 0, SHOULD, 1), 4), 1);
        due("a free SHOULD", x.look(group(x, BOOL, 0, FILTER, 1, SHOULD, 0), 4), 1);
    }

    private static void bestAsksAll() {
        BooleanRuns x = threeLists();
        int yes = x.node(TEST, 0, test(1, 1, 1));
        int later = x.node(TEST, 0, test(1, 1, 1));
        int best = group(x, BEST, 0, SHOULD, yes, SHOULD, later);
        due("BEST", x.look(best, 1), 1);
        due("its first part", x.told(yes, 5), 1);
        due("its second part", x.told(later, 5), 1);
        int constant = x.node(CONSTANT, yes, 3);
        int kept = x.node(KEPT, later, 0);
        due("CONSTANT", x.look(constant, 1), 1);
        due("comes to its part", x.told(yes, 5), 2);
        due("KEPT", x.look(kept, 1), 1);
        due("comes to its part", x.told(later, 5), 2);
        due("keep", x.keep(kept), 3);
        due("looks at all that may", x.told(later, 5), 5);
        due("KEPT with a SET", x.look(kept, 1), 1);
        due("does not come to its part", x.told(later, 5), 5);
    }

    /** 80 nodes, each twice in the next: without a memory a LOOK would not end. */
    private static void deepQueries() {
        BooleanRuns x = new BooleanRuns();
        x.put(0, 7, 1);
        int node = x.node(LIST, 0, 0);
        node = x.node(TEST, node, test(1, 1, 1));
        for (int i = 2; i < 80; i++) node = group(x, BOOL, 0, MUST, node, MUST, node);
        due("deep", x.look(node, 7), 1);
        due("a score that wraps", x.scored(), 0);
        due("asked once", x.told(1, 5), 1);
        due("half as deep", x.look(64, 7), 1);
        due("2 to the 63rd", x.scored(), Long.MIN_VALUE);
        due("run", x.run(node), 1);
        due("cost", x.told(node, 4), 1);
        due("rewrite is full", x.rewrite(node), FULL);
        BooleanRuns y = new BooleanRuns();
        int chain = y.node(RANGE, 0, 511);
        for (int i = 1; i < 80; i++) chain = y.node(CONSTANT, chain, i);
        due("a chain of 80", y.run(chain), 512);
        due("its score", y.score(511), 79);
    }

    private static void promise11() {
        sentence("11 scored");
        BooleanRuns x = threeLists();
        due("ahead of any", x.scored(), 0);
        x.look(0, 2);
        due("LIST", x.scored(), 20);
        x.look(0, 4);
        due("after one that did not match", x.scored(), 20);
        x.look(0, 512);
        due("after a bad one", x.scored(), 20);
        x.run(1);
        x.next(x.open(1), 0);
        due("after a run and a next", x.scored(), 20);
        x.look(x.node(RANGE, 0, 9), 3);
        due("RANGE", x.scored(), 0);
        x.look(x.node(CONSTANT, 0, 77), 3);
        due("CONSTANT", x.scored(), 77);
        x.look(x.node(TEST, 1, test(0, 1, 1)), 3);
        due("TEST", x.scored(), 300);
        x.look(group(x, BOOL, 0, MUST, 0, FILTER, 1, SHOULD, 2, SHOULD, 2), 3);
        due("BOOL: its MUSTS and SHOULDS, each as often as it is there", x.scored(), 40);
        x.look(group(x, BOOL, 0, MUST, 0, SHOULD, 2), 1);
        due("BOOL: a SHOULD that does not match", x.scored(), 10);
        x.look(x.node(KEPT, 0, 0), 3);
        due("KEPT", x.scored(), 0);
        bestScores();
    }

    private static void bestScores() {
        BooleanRuns x = threeLists();
        x.look(group(x, BEST, 33, SHOULD, 0, SHOULD, 1, SHOULD, 2), 3);
        due("BEST: 300 and 33 / 100 of 35", x.scored(), 311);
        x.look(group(x, BEST, 100, SHOULD, 0, SHOULD, 0), 3);
        due("BEST of one node twice", x.scored(), 60);
        x.look(group(x, BEST, 0, SHOULD, 0, SHOULD, 1), 3);
        due("BEST with share 0", x.scored(), 300);
        x.look(group(x, BEST, 50, SHOULD, 0, SHOULD, 1), 1);
        due("BEST of one that matches", x.scored(), 10);
        BooleanRuns y = new BooleanRuns();
        y.put(0, 0, 3);
        int big = y.node(LIST, 0, 0);
        for (int i = 0; i < 62; i++) big = group(y, BOOL, 0, MUST, big, MUST, big);
        y.look(big, 0);
        due("3 times 2 to the 62nd wraps", y.scored(), 3L << 62);
        y.look(group(y, BEST, 1, SHOULD, big, SHOULD, 0), 0);
        due("the greatest of one below 0 and 3", y.scored(), 3 + (3L << 62) / 100);
        y.look(group(y, BEST, 7, SHOULD, big, SHOULD, big), 0);
        due("both below 0, times the share first", y.scored(), (3L << 62) + (3L << 62) * 7 / 100);
    }

    private static void promises12To14() {
        sentence("12 run, 13 found, 14 score");
        BooleanRuns x = threeLists();
        dueFound(x, 0, 1, 10, 2, 20, 3, 30);
        due("found behind the last", x.found(3), NONE);
        due("score behind the last", x.score(3), 0);
        for (int w : WILD) {
            due("found", x.found(w), NONE);
            due("score", x.score(w), 0);
            due("run", x.run(w), BAD);
        }
        due("no such node", x.run(3), BAD);
        due("a bad run leaves the found", x.found(2), 3);
        x.put(0, 0, 5);
        x.put(0, 3, 31);
        due("a change leaves the found", x.found(0), 1);
        due("and its scores", x.score(2), 30);
        x.look(1, 4);
        due("a look leaves the found", x.found(0), 1);
        dueFound(x, 0, 0, 5, 1, 10, 2, 20, 3, 31);
        dueFound(x, x.node(NOTHING, 0, 0));
        due("none are found", x.found(0), NONE);
        due("all", x.run(x.node(RANGE, 0, 511)), 512);
        due("the last", x.found(511), 511);
        dueFound(x, group(x, BOOL, 1, MUST, 0, SHOULD, 1, SHOULD, 2, NOT, 2), 2, 220);
        int test = x.node(TEST, 1, test(1, 2, 1));
        dueFound(x, test, 2, 200, 4, 400);
        due("each was asked", x.told(test, 5), 3);
        dueFound(x, group(x, BEST, 10, SHOULD, 0, SHOULD, 1), 0, 5, 1, 10, 2, 202, 3, 303, 4, 400);
    }

    private static void promise15() {
        sentence("15 keep");
        BooleanRuns x = threeLists();
        int test = x.node(TEST, 0, test(1, 2, 1));
        int kept = x.node(KEPT, test, 0);
        int outer = x.node(KEPT, x.node(CONSTANT, kept, 4), 0);
        int other = x.node(KEPT, 1, 0);
        due("a LIST", x.keep(0), BAD);
        due("a CONSTANT", x.keep(outer - 1), BAD);
        due("none", x.keep(other + 1), BAD);
        for (int w : WILD) due("wild", x.keep(w), BAD);
        due("keep", x.keep(kept), 1);
        due("asked", x.told(test, 5), 3);
        due("again", x.keep(kept), STATE);
        due("not asked again", x.told(test, 5), 3);
        due("what is above", x.keep(outer), 1);
        due("went by the SET below", x.told(test, 5), 3);
        due("another", x.keep(other), 3);
        due("sets", x.sum(4), 3);
        due("refused: full of nothing", x.put(0, 600, 1), BAD);
        due("refused: not there", x.take(0, 500), STATE);
        due("a list that is under none", x.put(2, 9, 9), 2);
        due("still there", x.sum(4), 3);
        due("the same weight again", x.put(0, 1, 10), 3);
        due("its set went", x.told(kept, 6), NONE);
        due("and that above", x.told(outer, 6), NONE);
        due("not the other", x.told(other, 6), 3);
        due("keep below", x.keep(kept), 1);
        due("take", x.take(1, 2), 200);
        due("the other's set went", x.told(other, 6), NONE);
        due("not this", x.told(kept, 6), 1);
        setsAndParts();
    }

    private static void setsAndParts() {
        BooleanRuns x = threeLists();
        int inner = group(x, BOOL, 0, MUST, 0);
        int middle = group(x, BEST, 0, SHOULD, inner, SHOULD, 2);
        int beside = group(x, BOOL, 0, MUST, 1);
        int kept = x.node(KEPT, middle, 0);
        int above = group(x, BOOL, 0, MUST, kept);
        due("keep", x.keep(kept), 3);
        x.part(beside, MUST, 0);
        x.part(above, MUST, 0);
        due("what is beside and above does not count", x.told(kept, 6), 3);
        due("refused", x.part(inner, 4, 0), BAD);
        due("still there", x.told(kept, 6), 3);
        x.part(inner, NOT, 2);
        due("a part far under it", x.told(kept, 6), NONE);
        due("keep anew", x.keep(kept), 3);
        x.part(middle, SHOULD, 1);
        due("its part itself", x.told(kept, 6), NONE);
        due("keep anew", x.keep(kept), 4);
        for (int i = 2; i < 8; i++) x.part(inner, FILTER, 0);
        due("gone", x.told(kept, 6), NONE);
        due("keep anew", x.keep(kept), 4);
        due("refused", x.part(inner, FILTER, 0), FULL);
        due("still there", x.told(kept, 6), 4);
        x.rewrite(above);
        due("a rewriting leaves it", x.told(kept, 6), 4);
        x.take(1, 4);
        due("keep with fewer", x.keep(kept), 3);
        due("what went is not in it", x.may(kept, 4), false);
        due("what stayed is", x.may(kept, 3), true);
        due("an empty set", x.keep(x.node(KEPT, x.node(NOTHING, 0, 0), 0)), 0);
        due("is a set", x.sum(4), 2);
    }

    private static void promises16To18() {
        sentence("16 open, 17 next, 18 close");
        BooleanRuns x = threeLists();
        due("no such node", x.open(3), BAD);
        for (int i = 0; i < 8; i++) due("open", x.open(i % 3), i);
        due("the ninth", x.open(0), FULL);
        due("the ninth, bad too", x.open(-1), BAD);
        due("how many", x.sum(3), 8);
        due("close", x.close(3), 0);
        due("close", x.close(1), 0);
        due("again", x.close(1), BAD);
        due("the least that is not open", x.open(0), 1);
        due("then the next", x.open(2), 3);
        for (int w : WILD) {
            due("open", x.open(w), BAD);
            due("next", x.next(w, 0), BAD);
            due("to", x.next(0, w), BAD);
            due("close", x.close(w), BAD);
        }
        due("iterator 8", x.next(8, 0), BAD);
        due("close 8", x.close(8), BAD);
        due("to 512", x.next(0, 512), BAD);
        due("the first", x.next(0, 0), 1);
        due("behind it", x.next(0, 1), 2);
        due("back is not to be had", x.next(0, 0), 3);
        due("over", x.next(0, 0), NONE);
        x.put(0, 300, 1);
        due("over for good", x.next(0, 0), NONE);
        due("bad even so", x.next(0, 512), BAD);
        due("found", x.close(0), 3);
        due("closed", x.next(0, 0), BAD);
        due("opened anew", x.open(0), 0);
        due("ahead of all", x.next(0, 3), 3);
        due("sees what came", x.next(0, 4), 300);
        due("found", x.close(0), 2);
        int test = x.node(TEST, 1, test(1, 4, 1));
        due("open", x.open(test), 0);
        due("it looks till one matches", x.next(0, 0), 4);
        due("asked", x.told(test, 5), 3);
        due("none", x.next(0, 0), NONE);
        due("asked no more", x.told(test, 5), 3);
        due("open", x.close(2), 0);
        due("skips over", x.open(test), 2);
        due("skips over", x.next(2, 5), NONE);
        due("found none", x.close(2), 0);
        int last = x.node(RANGE, 510, 511);
        due("open", x.open(last), 2);
        due("511", x.next(2, 511), 511);
        due("none behind it", x.next(2, 511), NONE);
        due("found", x.close(2), 1);
    }

    private static void promise19() {
        sentence("19 rewrite");
        BooleanRuns x = threeLists();
        due("no such node", x.rewrite(3), BAD);
        for (int w : WILD) due("wild", x.rewrite(w), BAD);
        for (int list = 0; list < 3; list++) due("LIST", x.rewrite(list), list);
        due("a like LIST", x.rewrite(x.node(LIST, 1, 0)), 1);
        due("no more nodes", x.sum(0), 4);
        int empty = x.node(LIST, 5, 0);
        due("an empty LIST", x.rewrite(empty), 5);
        due("is a new NOTHING", x.told(5, 0), NOTHING);
        due("once more", x.rewrite(empty), 5);
        x.put(5, 0, 0);
        due("not empty now", x.rewrite(empty), empty);
        int range = x.node(RANGE, 1, 5);
        due("RANGE", x.rewrite(range), range);
        due("a like RANGE", x.rewrite(x.node(RANGE, 1, 5)), range);
        int other = x.node(RANGE, 1, 6);
        due("another RANGE", x.rewrite(other), other);
        due("NOTHING", x.rewrite(x.node(NOTHING, 0, 0)), 5);
        due("none were made", x.sum(0), 10);
        rewriteOfOnes();
        rewriteOfBests();
        rewriteIntoRow();
        rewriteOfRow();
        rewriteOrder();
        rewriteFull();
    }

    private static void rewriteOfOnes() {
        BooleanRuns x = threeLists();
        int nothing = x.node(NOTHING, 0, 0);
        for (int kind = CONSTANT; kind <= KEPT; kind++) {
            due("of a NOTHING", x.rewrite(x.node(kind, nothing, test(1, 1, 1) % (kind == TEST ? 2000000 : 1000000))), nothing);
        }
        int constant = x.node(CONSTANT, 0, 5);
        due("CONSTANT", x.rewrite(constant), constant);
        due("a like CONSTANT", x.rewrite(x.node(CONSTANT, 0, 5)), constant);
        int outer = x.node(CONSTANT, constant, 6);
        int flat = x.rewrite(outer);
        due("CONSTANT of a CONSTANT", flat, outer + 1);
        dueParts(x, flat, CONSTANT, 0, MUST, 0);
        due("the outer number", x.told(flat, 2), 6);
        int test = x.node(TEST, constant, test(1, 2, 3));
        due("TEST of a CONSTANT", x.rewrite(test), test);
        due("TEST of a CONSTANT of a CONSTANT", x.rewrite(x.node(TEST, outer, test(1, 2, 3))), x.sum(0) - 1);
        dueParts(x, x.sum(0) - 1, TEST, flat, MUST, flat);
        due("another TEST", x.rewrite(x.node(TEST, constant, test(1, 2, 4))), x.sum(0) - 1);
        int kept = x.node(KEPT, 0, 0);
        due("KEPT", x.rewrite(kept), kept);
        int keptOfKept = x.node(KEPT, kept, 0);
        due("KEPT of a KEPT", x.rewrite(keptOfKept), kept);
        due("KEPT of a CONSTANT", x.rewrite(x.node(KEPT, constant, 0)), kept);
        int keptOfTest = x.node(KEPT, test, 0);
        due("KEPT of a TEST", x.rewrite(keptOfTest), keptOfTest);
        int constantOfKept = x.node(CONSTANT, kept, 2);
        due("KEPT of a CONSTANT of a KEPT", x.rewrite(x.node(KEPT, constantOfKept, 0)), keptOfKept);
    }

    private static void rewriteOfBests() {
        BooleanRuns x = threeLists();
        int nothing = x.node(NOTHING, 0, 0);
        due("BEST of none", x.rewrite(x.node(BEST, 5, 0)), nothing);
        due("BEST of NOTHING", x.rewrite(group(x, BEST, 5, SHOULD, nothing, SHOULD, nothing)), nothing);
        due("BEST with one left", x.rewrite(group(x, BEST, 5, SHOULD, nothing, SHOULD, 1)), 1);
        int best = group(x, BEST, 5, SHOULD, 1, SHOULD, 0);
        due("BEST", x.rewrite(best), best);
        due("BEST with two left", x.rewrite(group(x, BEST, 5, SHOULD, 1, SHOULD, nothing, SHOULD, 0)), best);
        int share = group(x, BEST, 6, SHOULD, 1, SHOULD, 0);
        due("another SHARE", x.rewrite(share), share);
        int turned = group(x, BEST, 5, SHOULD, 0, SHOULD, 1);
        due("another order", x.rewrite(turned), turned);
        int twice = group(x, BEST, 5, SHOULD, 0, SHOULD, 0);
        due("one node twice", x.rewrite(twice), twice);
        int longer = group(x, BEST, 5, SHOULD, 1, SHOULD, 0, SHOULD, 2);
        due("one part more", x.rewrite(longer), longer);
    }

    private static void rewriteIntoRow() {
        BooleanRuns x = threeLists();
        int nothing = x.node(NOTHING, 0, 0);
        int hard = group(x, BOOL, 0, MUST, 0, FILTER, 1, NOT, 2);
        int soft = group(x, BOOL, 1, SHOULD, 0, SHOULD, 1);
        int mixed = group(x, BOOL, 0, MUST, 0, SHOULD, 1);
        int wide = x.node(RANGE, 0, 99);
        due("NOTHING as MUST", x.rewrite(group(x, BOOL, 0, MUST, wide, MUST, nothing)), nothing);
        due("NOTHING as FILTER", x.rewrite(group(x, BOOL, 0, MUST, wide, FILTER, nothing)), nothing);
        due("NOTHING as NOT and SHOULD", x.rewrite(group(x, BOOL, 0, NOT, nothing, MUST, wide, SHOULD, nothing)), wide);
        int n = x.rewrite(group(x, BOOL, 0, MUST, wide, MUST, hard));
        dueParts(x, n, BOOL, 0, MUST, wide, MUST, 0, FILTER, 1, NOT, 2);
        n = x.rewrite(group(x, BOOL, 0, FILTER, hard, MUST, wide));
        dueParts(x, n, BOOL, 0, FILTER, 0, FILTER, 1, NOT, 2, MUST, wide);
        n = x.rewrite(group(x, BOOL, 0, NOT, hard, SHOULD, hard, MUST, wide));
        dueParts(x, n, BOOL, 0, NOT, hard, SHOULD, hard, MUST, wide);
        n = x.rewrite(group(x, BOOL, 0, MUST, wide, MUST, mixed, FILTER, mixed, FILTER, soft));
        dueParts(x, n, BOOL, 0, MUST, wide, MUST, mixed, FILTER, soft);
        for (int least = 0; least <= 1; least++) {
            n = x.rewrite(group(x, BOOL, least, MUST, wide, SHOULD, soft, SHOULD, 2));
            dueParts(x, n, BOOL, least, MUST, wide, SHOULD, 0, SHOULD, 1, SHOULD, 2);
        }
        n = x.rewrite(group(x, BOOL, 2, MUST, wide, SHOULD, soft, SHOULD, 2, SHOULD, 1));
        dueParts(x, n, BOOL, 2, MUST, wide, SHOULD, soft, SHOULD, 2, SHOULD, 1);
        int two = group(x, BOOL, 2, SHOULD, 0, SHOULD, 1, SHOULD, 2);
        n = x.rewrite(group(x, BOOL, 1, MUST, wide, SHOULD, two, SHOULD, 2));
        dueParts(x, n, BOOL, 1, MUST, wide, SHOULD, two, SHOULD, 2);
        n = x.rewrite(group(x, BOOL, 0, MUST, wide, SHOULD, mixed));
        dueParts(x, n, BOOL, 0, MUST, wide, SHOULD, mixed);
        roomInRow(x, hard, wide);
    }

    private static void roomInRow(BooleanRuns x, int hard, int wide) {
        int fits = group(x, BOOL, 0, SHOULD, wide, SHOULD, wide, MUST, hard, SHOULD, wide, SHOULD, wide, SHOULD, wide);
        dueParts(x, x.rewrite(fits), BOOL, 0, SHOULD, wide, SHOULD, wide, MUST, 0, FILTER, 1, NOT, 2,
            SHOULD, wide, SHOULD, wide, SHOULD, wide);
        int more = group(x, BOOL, 0, SHOULD, wide, SHOULD, wide, MUST, hard, SHOULD, wide, SHOULD, wide, SHOULD, wide, SHOULD, wide);
        dueParts(x, x.rewrite(more), BOOL, 0, SHOULD, wide, SHOULD, wide, MUST, hard,
            SHOULD, wide, SHOULD, wide, SHOULD, wide, SHOULD, wide);
        int nothing = x.node(NOTHING, 0, 0);
        int behind = group(x, BOOL, 0, SHOULD, wide, SHOULD, wide, MUST, hard, SHOULD, wide, SHOULD, wide, SHOULD, wide, NOT, nothing);
        dueParts(x, x.rewrite(behind), BOOL, 0, SHOULD, wide, SHOULD, wide, MUST, hard, SHOULD, wide, SHOULD, wide, SHOULD, wide);
        int ahead = group(x, BOOL, 0, NOT, nothing, SHOULD, wide, SHOULD, wide, MUST, hard, SHOULD, wide, SHOULD, wide, SHOULD, wide);
        due("a NOTHING ahead leaves room", x.rewrite(ahead), x.rewrite(fits));
    }

    private static void rewriteOfRow() {
        BooleanRuns x = threeLists();
        int nothing = x.node(NOTHING, 0, 0);
        due("LEAST above the SHOULDS", x.rewrite(group(x, BOOL, 2, MUST, 0, SHOULD, 1)), nothing);
        due("LEAST above no SHOULDS", x.rewrite(group(x, BOOL, 1, MUST, 0)), nothing);
        due("an empty BOOL", x.rewrite(x.node(BOOL, 0, 0)), nothing);
        due("a BOOL of NOTS", x.rewrite(group(x, BOOL, 0, NOT, 0)), nothing);
        int n = x.rewrite(group(x, BOOL, 0, SHOULD, 0, SHOULD, 1));
        dueParts(x, n, BOOL, 1, SHOULD, 0, SHOULD, 1);
        due("one SHOULD alone", x.rewrite(group(x, BOOL, 0, SHOULD, 1)), 1);
        n = x.rewrite(group(x, BOOL, 2, SHOULD, 0, FILTER, 2, SHOULD, 1));
        dueParts(x, n, BOOL, 0, MUST, 0, FILTER, 2, MUST, 1);
        n = x.rewrite(group(x, BOOL, 2, SHOULD, 0, SHOULD, 2, SHOULD, 1));
        dueParts(x, n, BOOL, 2, SHOULD, 0, SHOULD, 2, SHOULD, 1);
        n = x.rewrite(group(x, BOOL, 0, FILTER, 0));
        dueParts(x, n, BOOL, 0, FILTER, 0);
        due("a FILTER that is a MUST behind it", x.rewrite(group(x, BOOL, 0, FILTER, 0, MUST, 0)), 0);
        due("a FILTER that is a MUST ahead of it", x.rewrite(group(x, BOOL, 0, MUST, 0, FILTER, 0)), 0);
        due("a FILTER that is a SHOULD which must", x.rewrite(group(x, BOOL, 1, FILTER, 0, SHOULD, 0)), 0);
        due("a FILTER twice", x.rewrite(group(x, BOOL, 0, FILTER, 0, FILTER, 0)), n);
        n = x.rewrite(group(x, BOOL, 0, FILTER, 1, NOT, 0, FILTER, 2, NOT, 0, FILTER, 1));
        dueParts(x, n, BOOL, 0, FILTER, 1, NOT, 0, FILTER, 2);
        due("a NOT that is a MUST", x.rewrite(group(x, BOOL, 0, MUST, 0, NOT, 0)), nothing);
        due("a NOT that is a FILTER", x.rewrite(group(x, BOOL, 0, NOT, 0, FILTER, 0, MUST, 1)), nothing);
        n = x.rewrite(group(x, BOOL, 0, MUST, 1, NOT, 0, SHOULD, 0));
        dueParts(x, n, BOOL, 0, MUST, 1, NOT, 0, SHOULD, 0);
        n = x.rewrite(group(x, BOOL, 0, MUST, 0, MUST, 0));
        dueParts(x, n, BOOL, 0, MUST, 0, MUST, 0);
        int inner = group(x, BOOL, 0, MUST, 0, NOT, 1);
        due("what comes by two BOOLS", x.rewrite(group(x, BOOL, 0, MUST, inner, MUST, 1)), nothing);
        due("a BOOL that is so", x.rewrite(group(x, BOOL, 0, MUST, 0, NOT, 1)), inner);
    }

    private static void rewriteOrder() {
        BooleanRuns x = threeLists();
        int empty = x.node(LIST, 9, 0);
        int first = x.node(CONSTANT, x.node(CONSTANT, 0, 1), 2);
        int second = x.node(CONSTANT, x.node(CONSTANT, 1, 1), 3);
        int unused = x.node(CONSTANT, x.node(CONSTANT, 2, 1), 4);
        int top = group(x, BEST, 0, SHOULD, second, SHOULD, empty, SHOULD, first);
        int made = x.sum(0);
        due("the top comes last", x.rewrite(top), made + 3);
        due("the NOTHING first", x.told(made, 0), NOTHING);
        due("then the lesser", x.told(made + 1, 2), 2);
        due("then the greater", x.told(made + 2, 2), 3);
        dueParts(x, made + 3, BEST, 0, SHOULD, made + 2, SHOULD, made + 1);
        due("no more", x.sum(0), made + 4);
        due("what is not under it was left", x.rewrite(unused), made + 4);
        int inner = x.node(CONSTANT, first, 8);
        int all = group(x, BOOL, 0, MUST, inner, MUST, empty);
        int before = x.sum(0);
        due("NOTHING in the end", x.rewrite(all), made);
        due("yet what is under it was made", x.sum(0), before + 1);
        due("never asked", x.told(before, 5), 0);
    }

    private static void rewriteFull() {
        BooleanRuns x = threeLists();
        int a = x.node(CONSTANT, x.node(CONSTANT, 0, 1), 2);
        int b = x.node(CONSTANT, x.node(CONSTANT, 1, 1), 2);
        int both = group(x, BOOL, 0, MUST, a, MUST, b);
        while (x.sum(0) < 78) x.node(RANGE, 5, 5);
        due("three are wanted", x.rewrite(both), FULL);
        due("none is made", x.sum(0), 78);
        due("room for one", x.rewrite(a), 78);
        due("two are wanted", x.rewrite(both), FULL);
        due("none is made", x.sum(0), 79);
        due("room for one more", x.rewrite(b), 79);
        due("one is wanted", x.rewrite(both), FULL);
        due("none is wanted", x.rewrite(b), 79);
        due("all is there", x.sum(0), 80);
        due("bad comes first", x.rewrite(80), BAD);
        dueFound(x, both, 2, 4, 3, 4);
    }

    private static void promise20() {
        sentence("20 sum");
        BooleanRuns x = threeLists();
        int test = x.node(TEST, 0, test(1, 1, 1));
        int other = x.node(TEST, 1, test(1, 1, 1));
        int kept = x.node(KEPT, test, 0);
        due("nodes", x.sum(0), 6);
        due("objects", x.sum(1), 7);
        due("asked", x.sum(2), 0);
        due("iterators", x.sum(3), 0);
        due("sets", x.sum(4), 0);
        x.run(test);
        x.look(other, 2);
        due("asked", x.sum(2), 4);
        x.keep(kept);
        due("asked", x.sum(2), 7);
        due("sets", x.sum(4), 1);
        x.next(x.open(other), 0);
        due("asked", x.sum(2), 8);
        due("iterators", x.sum(3), 1);
        x.close(0);
        due("iterators", x.sum(3), 0);
        x.take(0, 1);
        due("objects", x.sum(1), 6);
        due("sets", x.sum(4), 0);
        allNodesAndParts();
        due("what 5", x.sum(5), BAD);
        for (int w : WILD) due("wild", x.sum(w), BAD);
    }

    /** 80 NODES, the last with all the PARTS that one can have. */
    private static void allNodesAndParts() {
        BooleanRuns x = threeLists();
        int test = x.node(TEST, 0, test(1, 1, 1));
        int kept = x.node(KEPT, test, 0);
        while (x.sum(0) < 79) x.node(BOOL, 8, 0);
        int last = group(x, BOOL, 3, MUST, test, SHOULD, 0, SHOULD, 1, SHOULD, 2, SHOULD, test, SHOULD, 0, NOT, 78, FILTER, kept);
        due("all nodes", x.sum(0), 80);
        due("all parts", x.told(last, 3), 8);
        dueFound(x, last, 1, 40, 2, 280, 3, 425);
        due("asked", x.sum(2), 3);
        due("keep", x.keep(kept), 3);
        due("asked", x.sum(2), 6);
        due("put", x.put(0, 1, 11), 3);
        due("sets", x.sum(4), 0);
        due("keep", x.keep(kept), 3);
        due("part", x.part(78, SHOULD, 0), 1);
        due("the set is not over it", x.sum(4), 1);
        due("rewrite without a new one", x.rewrite(test), test);
        due("rewrite with a new one", x.rewrite(last), FULL);
    }

    public static void main(String[] args) {
        promise1();
        promise2();
        promise3();
        promise4();
        promise5();
        promise6();
        promise7();
        promises8And9();
        promise10();
        promise11();
        promises12To14();
        promise15();
        promises16To18();
        promise19();
        promise20();
        finish("PromiseTests");
    }
}
