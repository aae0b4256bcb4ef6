/** The boundary cases of what the kinds of NODES match, of their SCORES and of the SETS: section 1 of the terms. */
public final class MatchBoundaryTests extends Checks {
    private static void dueMatch(BooleanRuns x, String what, int node, int object, int want) {
        due(what + " and object " + object, x.look(node, object), want);
    }

    /** A NODE whose SCORE for object 0 is 3 times 2 to the 62nd, cut to a long: it is below 0. Takes 63 NODES. */
    private static int belowZero(BooleanRuns x) {
        x.put(0, 0, 3);
        int node = x.node(LIST, 0, 0);
        for (int i = 0; i < 62; i++) node = group(x, BOOL, 0, MUST, node, MUST, node);
        return node;
    }

    private static void wrappingSums() {
        sentence("SCORES (longs, which wrap)");
        BooleanRuns x = new BooleanRuns();
        x.put(0, 0, 1);
        x.put(0, 1, 3);
        int node = x.node(LIST, 0, 0);
        for (int i = 0; i < 62; i++) node = group(x, BOOL, 0, MUST, node, MUST, node);
        x.look(node, 0);
        due("2 to the 62nd", x.scored(), 1L << 62);
        x.look(node, 1);
        due("3 times that wraps", x.scored(), -(1L << 62));
        int twice = group(x, BOOL, 0, MUST, node, SHOULD, node);
        x.look(twice, 0);
        due("2 to the 63rd wraps", x.scored(), Long.MIN_VALUE);
        int nearly = group(x, BOOL, 0, MUST, twice, MUST, 0);
        x.look(nearly, 0);
        due("one above the least", x.scored(), Long.MIN_VALUE + 1);
        x.look(group(x, BOOL, 0, MUST, twice, MUST, twice), 0);
        due("2 to the 64th is 0", x.scored(), 0);
        due("run", x.run(nearly), 2);
        due("score(0)", x.score(0), Long.MIN_VALUE + 1);
        due("score(1)", x.score(1), Long.MIN_VALUE + 3);
    }

    private static void wrappingBests() {
        sentence("SCORES (longs, which wrap) (of a BEST)");
        BooleanRuns x = new BooleanRuns();
        int big = belowZero(x);
        long score = 3L << 62;
        x.look(group(x, BEST, 100, SHOULD, big, SHOULD, big), 0);
        due("times 100 wraps ahead of the division", x.scored(), score + score * 100 / 100);
        x.look(group(x, BEST, 0, SHOULD, big, SHOULD, big), 0);
        due("SHARE 0", x.scored(), score);
        x.look(group(x, BEST, 1, SHOULD, big, SHOULD, big, SHOULD, big), 0);
        due("the others' sum wraps", x.scored(), score + (score + score) / 100);
        x.look(group(x, BEST, 100, SHOULD, big), 0);
        due("the greatest may be below 0", x.scored(), score);
        int nothing = x.node(NOTHING, 0, 0);
        x.look(group(x, BEST, 100, SHOULD, nothing, SHOULD, big, SHOULD, failing(x, 0)), 0);
        due("what does not match has no SCORE of 0", x.scored(), score);
        x.look(group(x, BEST, 0, SHOULD, big, SHOULD, 0), 0);
        due("3 is greater than one below 0", x.scored(), 3);
        x.look(group(x, BEST, 1, SHOULD, 0, SHOULD, big), 0);
        due("one below 0 is among the others", x.scored(), 3 + score / 100);
    }

    private static void lists() {
        sentence("0 LIST: the objects of its LIST; the WEIGHT.");
        BooleanRuns x = new BooleanRuns();
        int list = x.node(LIST, 4, 0);
        dueFound(x, list);
        x.put(4, 0, 0);
        x.put(4, 511, 1000000);
        x.put(5, 3, 3);
        dueFound(x, list, 0, 0, 511, 1000000);
        dueMatch(x, "an object of another LIST", list, 3, 0);
        dueMatch(x, "the object beside", list, 1, 0);
        x.take(4, 0);
        dueFound(x, list, 511, 1000000);
    }

    private static void ranges() {
        sentence("1 RANGE: the objects from .. to; 0.");
        BooleanRuns x = new BooleanRuns();
        int middle = x.node(RANGE, 63, 65);
        dueFound(x, middle, 63, 0, 64, 0, 65, 0);
        dueMatch(x, "one below", middle, 62, 0);
        dueMatch(x, "one above", middle, 66, 0);
        dueFound(x, x.node(RANGE, 0, 0), 0, 0);
        dueFound(x, x.node(RANGE, 511, 511), 511, 0);
        due("all", x.run(x.node(RANGE, 0, 511)), 512);
        due("score", x.score(511), 0);
    }

    private static void needed() {
        sentence("objects that all its MUSTS and FILTERS match");
        BooleanRuns x = threeLists();
        int range = x.node(RANGE, 0, 3);
        dueFound(x, group(x, BOOL, 0, MUST, 0, MUST, 1), 2, 220, 3, 330);
        dueFound(x, group(x, BOOL, 0, FILTER, 0, FILTER, 1), 2, 0, 3, 0);
        dueFound(x, group(x, BOOL, 0, FILTER, 0, MUST, 1), 2, 200, 3, 300);
        dueFound(x, group(x, BOOL, 0, joined(times(7, MUST, range), row(FILTER, 2))), 3, 0);
        dueFound(x, group(x, BOOL, 0, joined(row(MUST, 2), times(7, FILTER, range))), 3, 5);
        dueFound(x, group(x, BOOL, 0, MUST, 0, MUST, x.node(NOTHING, 0, 0)));
    }

    private static void ruledOut() {
        sentence("no NOT matches");
        BooleanRuns x = threeLists();
        dueFound(x, group(x, BOOL, 0, MUST, 0, NOT, 2), 1, 10, 2, 20);
        dueFound(x, group(x, BOOL, 0, NOT, 1, FILTER, 0, NOT, 2), 1, 0);
        dueFound(x, group(x, BOOL, 0, MUST, 0, NOT, 0));
        int eighth = group(x, BOOL, 0, joined(row(MUST, 0), times(6, NOT, 2), row(NOT, 1)));
        dueFound(x, eighth, 1, 10);
        dueFound(x, group(x, BOOL, 0, MUST, 0, NOT, failing(x, 0)), 1, 10, 2, 20, 3, 30);
        dueFound(x, group(x, BOOL, 0, SHOULD, 0, NOT, 1), 1, 10);
    }

    private static void enough() {
        sentence("LEAST SHOULDS at least match");
        for (int least = 0; least <= 8; least++) {
            BooleanRuns x = new BooleanRuns();
            x.put(0, 1, 1);
            x.node(RANGE, 0, 9);
            x.node(LIST, 0, 0);
            x.node(NOTHING, 0, 0);
            for (int many = 0; many <= 7; many++) {
                int with = group(x, BOOL, least, joined(row(MUST, 0), times(many, SHOULD, 1), times(7 - many, SHOULD, 2)));
                dueMatch(x, many + " of " + least, with, 1, many >= least ? 1 : 0);
            }
            for (int many = 0; many <= 6; many++) {
                int no = failing(x, 0);
                int with = group(x, BOOL, least, joined(row(MUST, 0, FILTER, 0), times(many, SHOULD, 1), times(6 - many, SHOULD, no)));
                dueMatch(x, many + " of " + least + ", the others by a TEST", with, 1, many >= least ? 1 : 0);
            }
            int all = group(x, BOOL, least, times(8, SHOULD, 1));
            dueMatch(x, "8 of " + least, all, 1, 1);
            due("the score", x.scored(), 8);
            dueMatch(x, "none of " + least, all, 2, 0);
        }
    }

    private static void atLeastOne() {
        sentence("and at least one MUST, FILTER or SHOULD");
        BooleanRuns x = threeLists();
        dueFound(x, x.node(BOOL, 0, 0));
        dueFound(x, group(x, BOOL, 0, NOT, 2));
        dueFound(x, group(x, BOOL, 0, NOT, x.node(NOTHING, 0, 0)));
        dueFound(x, group(x, BOOL, 0, MUST, 2), 3, 5);
        dueFound(x, group(x, BOOL, 0, FILTER, 2), 3, 0);
        dueFound(x, group(x, BOOL, 0, SHOULD, 2), 3, 5);
        dueFound(x, group(x, BOOL, 0, SHOULD, 2, NOT, 0));
        dueFound(x, group(x, BOOL, 0, FILTER, 2, SHOULD, 1), 3, 300);
        dueFound(x, group(x, BOOL, 0, MUST, 0, SHOULD, 2), 1, 10, 2, 20, 3, 35);
    }

    private static void scoresOfBools() {
        sentence("the SCORES of its MUSTS, and of the SHOULDS that match, together");
        BooleanRuns x = threeLists();
        int all = group(x, BOOL, 0, MUST, 0, FILTER, 1, SHOULD, 2, MUST, 0, SHOULD, 1);
        dueFound(x, all, 2, 240, 3, 365);
        dueFound(x, group(x, BOOL, 0, FILTER, 0, SHOULD, 2), 1, 0, 2, 0, 3, 5);
        int same = group(x, BOOL, 0, FILTER, 0, SHOULD, 0, MUST, 0, NOT, 2);
        dueFound(x, same, 1, 20, 2, 40);
    }

    private static void bests() {
        sentence("objects that one of them matches, or more");
        BooleanRuns x = threeLists();
        dueFound(x, x.node(BEST, 50, 0));
        dueFound(x, group(x, BEST, 50, SHOULD, 2), 3, 5);
        dueFound(x, group(x, BEST, 0, SHOULD, 0, SHOULD, 2), 1, 10, 2, 20, 3, 30);
        int nothing = x.node(NOTHING, 0, 0);
        dueFound(x, group(x, BEST, 0, joined(times(7, SHOULD, nothing), row(SHOULD, 1))), 2, 200, 3, 300, 4, 400);
        dueFound(x, group(x, BEST, 0, times(8, SHOULD, nothing)));
    }

    private static void shares() {
        sentence("the greatest SCORE of these and SHARE / 100 (cut toward 0) of the others' sum (times SHARE first)");
        BooleanRuns x = threeLists();
        dueFound(x, group(x, BEST, 0, SHOULD, 0, SHOULD, 1, SHOULD, 2), 1, 10, 2, 200, 3, 300, 4, 400);
        dueFound(x, group(x, BEST, 100, SHOULD, 0, SHOULD, 1, SHOULD, 2), 1, 10, 2, 220, 3, 335, 4, 400);
        dueFound(x, group(x, BEST, 99, SHOULD, 2, SHOULD, 1, SHOULD, 0), 1, 10, 2, 219, 3, 334, 4, 400);
        dueFound(x, group(x, BEST, 1, SHOULD, 1, SHOULD, 2, SHOULD, 0), 1, 10, 2, 200, 3, 300, 4, 400);
        dueFound(x, group(x, BEST, 50, SHOULD, 2, SHOULD, 2), 3, 7);
        dueFound(x, group(x, BEST, 10, SHOULD, 2, SHOULD, 2, SHOULD, 2), 3, 6);
        dueFound(x, group(x, BEST, 9, SHOULD, 2, SHOULD, 2), 3, 5);
    }

    private static void cutTowardZero() {
        sentence("(cut toward 0) (below 0)");
        BooleanRuns x = new BooleanRuns();
        int big = belowZero(x);
        long score = 3L << 62;
        x.look(group(x, BEST, 1, SHOULD, big, SHOULD, 0), 0);
        due("-46116860184273879.04 is cut", x.scored(), 3 - 46116860184273879L);
        due("which the plain division says too", 3 + score / 100, 3 - 46116860184273879L);
    }

    private static void constants() {
        sentence("4 CONSTANT: what its PART matches; its number.");
        BooleanRuns x = threeLists();
        dueFound(x, x.node(CONSTANT, 2, 0), 3, 0);
        dueFound(x, x.node(CONSTANT, 2, 1000000), 3, 1000000);
        dueFound(x, x.node(CONSTANT, x.node(CONSTANT, 2, 7), 8), 3, 8);
        dueFound(x, x.node(CONSTANT, x.node(NOTHING, 0, 0), 8));
    }

    private static void testsBelow() {
        sentence("(a times the object) modulo m is below r");
        BooleanRuns x = new BooleanRuns();
        x.put(0, 6, 60);
        x.put(0, 511, 70);
        x.node(LIST, 0, 0);
        dueFound(x, x.node(TEST, 0, test(1, 7, 6)), 511, 70);
        dueFound(x, x.node(TEST, 0, test(1, 7, 7)), 6, 60, 511, 70);
        dueFound(x, x.node(TEST, 0, test(1, 7, 0)));
        dueFound(x, x.node(TEST, 0, test(0, 7, 1)), 6, 60, 511, 70);
        dueFound(x, x.node(TEST, 0, test(0, 7, 0)));
        dueFound(x, x.node(TEST, 0, test(999, 1, 1)), 6, 60, 511, 70);
        dueFound(x, x.node(TEST, 0, test(5, 3, 999)), 6, 60, 511, 70);
        due("999 * 511 modulo 998 is 511", 999 * 511 % 998, 511);
        dueFound(x, x.node(TEST, 0, test(999, 998, 511)), 6, 60);
        dueFound(x, x.node(TEST, 0, test(999, 998, 512)), 6, 60, 511, 70);
        dueFound(x, x.node(TEST, 0, test(999, 999, 1)), 6, 60, 511, 70);
    }

    private static void testsOfObjectZero() {
        sentence("(a times the object) modulo m is below r (object 0)");
        BooleanRuns x = new BooleanRuns();
        x.put(0, 0, 9);
        x.node(LIST, 0, 0);
        dueFound(x, x.node(TEST, 0, test(999, 999, 1)), 0, 9);
        dueFound(x, x.node(TEST, 0, test(999, 999, 0)));
    }

    private static void keptScores() {
        sentence("6 KEPT: what its PART matches; 0.");
        BooleanRuns x = threeLists();
        int kept = x.node(KEPT, 0, 0);
        dueFound(x, kept, 1, 0, 2, 0, 3, 0);
        x.keep(kept);
        dueFound(x, kept, 1, 0, 2, 0, 3, 0);
        x.look(kept, 3);
        due("scored", x.scored(), 0);
        dueFound(x, group(x, BOOL, 0, MUST, kept, MUST, 2), 3, 5);
    }

    private static void nothing() {
        sentence("7 NOTHING: none.");
        BooleanRuns x = new BooleanRuns();
        x.node(NOTHING, 0, 0);
        dueFound(x, 0);
        for (int object : row(0, 1, 63, 64, 511)) dueMatch(x, "NOTHING", 0, object, 0);
    }

    private static void setsMade() {
        sentence("KEEPING makes it: OBJECT by OBJECT from 0 on a LOOK by its PART; the SET is those that match.");
        BooleanRuns x = new BooleanRuns();
        int all = x.node(RANGE, 0, 511);
        int odd = x.node(TEST, all, test(1, 2, 1));
        int kept = x.node(KEPT, odd, 0);
        due("none ahead of it", x.told(kept, 6), NONE);
        due("keep", x.keep(kept), 256);
        due("a LOOK at each", x.told(odd, 5), 512);
        dueBounds(x, "object 0", kept, 0, true, true);
        dueBounds(x, "object 1", kept, 1, false, false);
        dueBounds(x, "object 510", kept, 510, true, true);
        dueBounds(x, "object 511", kept, 511, false, false);
        due("all", x.keep(x.node(KEPT, all, 0)), 512);
        due("none", x.keep(x.node(KEPT, x.node(NOTHING, 0, 0), 0)), 0);
        due("three SETS", x.sum(4), 3);
    }

    /** A KEPT with its SET over a BEST over a BOOL over LISTS 0 and 1; a full BOOL is its BEST's second PART. */
    private static BooleanRuns keptTree() {
        BooleanRuns x = threeLists();
        group(x, BOOL, 0, MUST, 0, NOT, 2);
        group(x, BOOL, 0, times(8, MUST, 1));
        group(x, BEST, 0, SHOULD, 3, SHOULD, 4);
        x.node(KEPT, 5, 0);
        x.keep(6);
        return x;
    }

    private static void setsThatStay() {
        sentence("by any part(), put(), take() that is not refused (a refused one leaves it)");
        BooleanRuns x = keptTree();
        due("a part() of a wrong ROLE", x.part(3, 4, 0), BAD);
        due("a part() made later", x.part(3, 0, 4), BAD);
        due("a ninth part()", x.part(4, MUST, 1), FULL);
        due("a wrong put()", x.put(0, 1, -1), BAD);
        due("another wrong put()", x.put(0, 512, 1), BAD);
        due("a wrong take()", x.take(0, -1), BAD);
        due("a take() of none", x.take(0, 4), STATE);
        due("the SET is there", x.told(6, 6), 4);
        BooleanRuns y = new BooleanRuns();
        for (int i = 0; i < 60; i++) y.put(0, i, 1);
        y.node(LIST, 0, 0);
        y.node(KEPT, 0, 0);
        y.keep(1);
        due("a put() into a full LIST", y.put(0, 60, 1), FULL);
        due("the SET is there", y.told(1, 6), 60);
        due("a put() of what is there", y.put(0, 59, 1), 60);
        due("the SET is gone", y.told(1, 6), NONE);
    }

    private static void setsThatGoByLists() {
        sentence("It goes when .. the LIST of one, changes");
        for (int list = 0; list <= 2; list++) {
            BooleanRuns x = keptTree();
            due("a new object of LIST " + list, x.put(list, 100, 1) > 0, true);
            due("the SET is gone", x.told(6, 6), NONE);
            due("keep", x.keep(6) >= 0, true);
            due("another weight", x.put(list, 3, 7) > 0, true);
            due("the SET is gone", x.told(6, 6), NONE);
            due("keep", x.keep(6) >= 0, true);
            due("the same weight", x.put(list, 3, 7) > 0, true);
            due("the SET is gone", x.told(6, 6), NONE);
            due("keep", x.keep(6) >= 0, true);
            due("take", x.take(list, 3), 7);
            due("the SET is gone", x.told(6, 6), NONE);
            due("keep", x.keep(6) >= 0, true);
            x.put(3, 3, 3);
            x.put(15, 3, 3);
            due("other LISTS leave it", x.sum(4), 1);
        }
    }

    private static void setsThatGoByParts() {
        sentence("It goes when a NODE under it (its PART, a PART of that, and so on) .. changes");
        BooleanRuns x = keptTree();
        x.part(5, SHOULD, 2);
        due("its PART", x.told(6, 6), NONE);
        x.keep(6);
        x.part(3, SHOULD, 2);
        due("a PART of that", x.told(6, 6), NONE);
        BooleanRuns y = threeLists();
        int deep = group(y, BOOL, 0, MUST, 0);
        int chain = deep;
        for (int i = 0; i < 10; i++) chain = y.node(CONSTANT, chain, i);
        int kept = y.node(KEPT, chain, 0);
        y.keep(kept);
        y.part(deep, NOT, 2);
        due("a PART far under it", y.told(kept, 6), NONE);
        due("which counts then", y.keep(kept), 2);
    }

    private static void setsBeside() {
        sentence("It goes when a NODE under it .. changes (not one above or beside it)");
        BooleanRuns x = threeLists();
        int beside = group(x, BOOL, 0, MUST, 0);
        int kept = x.node(KEPT, 0, 0);
        int above = group(x, BOOL, 0, MUST, kept);
        x.put(0, 1, 10);
        x.keep(kept);
        x.part(beside, MUST, 0);
        due("beside", x.told(kept, 6), 3);
        x.part(above, MUST, 0);
        due("above", x.told(kept, 6), 3);
        x.node(LIST, 0, 0);
        x.rewrite(above);
        x.run(above);
        x.look(kept, 1);
        x.next(x.open(kept), 0);
        x.close(0);
        due("what is no change", x.told(kept, 6), 3);
    }

    private static void setsOverSets() {
        sentence("It goes when a NODE under it .. changes (SETS over SETS)");
        BooleanRuns x = threeLists();
        int inner = x.node(KEPT, 0, 0);
        int outer = x.node(KEPT, inner, 0);
        int other = x.node(KEPT, 1, 0);
        x.keep(outer);
        x.keep(inner);
        x.keep(other);
        due("keep of what is under it leaves it", x.told(outer, 6), 3);
        due("three", x.sum(4), 3);
        x.take(0, 1);
        due("inner", x.told(inner, 6), NONE);
        due("outer", x.told(outer, 6), NONE);
        due("other", x.told(other, 6), 3);
        due("outer without inner", x.keep(outer), 2);
        x.take(0, 2);
        due("it goes though the KEPT between has none", x.told(outer, 6), NONE);
    }

    private static void setsMadeAnew() {
        sentence("A KEPT has a SET or none.");
        BooleanRuns x = threeLists();
        int kept = x.node(KEPT, 0, 0);
        due("keep", x.keep(kept), 3);
        x.take(0, 3);
        x.take(0, 2);
        due("none", x.told(kept, 6), NONE);
        dueFound(x, kept, 1, 0);
        due("anew", x.keep(kept), 1);
        dueBounds(x, "what went", kept, 3, false, false);
        dueFound(x, kept, 1, 0);
        x.take(0, 1);
        due("anew, of none", x.keep(kept), 0);
        due("it is one", x.sum(4), 1);
        dueFound(x, kept);
    }

    public static void main(String[] args) {
        wrappingSums();
        wrappingBests();
        lists();
        ranges();
        needed();
        ruledOut();
        enough();
        atLeastOne();
        scoresOfBools();
        bests();
        shares();
        cutTowardZero();
        constants();
        testsBelow();
        testsOfObjectZero();
        keptScores();
        nothing();
        setsMade();
        setsThatStay();
        setsThatGoByLists();
        setsThatGoByParts();
        setsBeside();
        setsOverSets();
        setsMadeAnew();
        finish("MatchBoundaryTests");
    }
}
