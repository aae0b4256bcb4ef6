/** The boundary cases of MAY, SURE, LOOK and COSTS: section 2 of the terms, and promises 8 to 11. */
public final class LookBoundaryTests extends Checks {
    private static void plainBounds() {
        sentence("0, 1, 7: both are whether it matches");
        BooleanRuns x = new BooleanRuns();
        x.put(0, 0, 0);
        x.put(0, 511, 0);
        int list = x.node(LIST, 0, 0);
        int empty = x.node(LIST, 1, 0);
        int range = x.node(RANGE, 64, 127);
        int nothing = x.node(NOTHING, 0, 0);
        for (int object : row(0, 1, 63, 64, 127, 128, 510, 511)) {
            boolean inList = object == 0 || object == 511;
            boolean inRange = object == 64 || object == 127;
            dueBounds(x, "LIST and " + object, list, object, inList, inList);
            dueBounds(x, "an empty LIST and " + object, empty, object, false, false);
            dueBounds(x, "RANGE and " + object, range, object, inRange, inRange);
            dueBounds(x, "NOTHING and " + object, nothing, object, false, false);
        }
        x.take(0, 0);
        x.put(1, 0, 0);
        dueBounds(x, "LIST after a take", list, 0, false, false);
        dueBounds(x, "LIST after a put", empty, 0, true, true);
    }

    private static void keptBounds() {
        sentence("6 with a SET: both are whether that has it; without: those of its PART, as with 4.");
        BooleanRuns x = new BooleanRuns();
        int range = x.node(RANGE, 2, 3);
        int even = x.node(TEST, range, test(1, 2, 1));
        int kept = x.node(KEPT, even, 0);
        int plain = x.node(KEPT, range, 0);
        int constant = x.node(CONSTANT, even, 1);
        int sureConstant = x.node(CONSTANT, range, 1);
        for (int object = 1; object <= 4; object++) {
            boolean in = object == 2 || object == 3;
            dueBounds(x, "KEPT of a TEST and " + object, kept, object, in, false);
            dueBounds(x, "KEPT of a RANGE and " + object, plain, object, in, in);
            dueBounds(x, "CONSTANT of a TEST and " + object, constant, object, in, false);
            dueBounds(x, "CONSTANT of a RANGE and " + object, sureConstant, object, in, in);
        }
        x.keep(kept);
        for (int object = 1; object <= 4; object++) {
            dueBounds(x, "KEPT with a SET and " + object, kept, object, object == 2, object == 2);
        }
        int never = x.node(KEPT, failing(x, range), 0);
        x.keep(never);
        dueBounds(x, "KEPT with an empty SET", never, 2, false, false);
    }

    private static void testBounds() {
        sentence("5: MAY that of its PART; SURE never.");
        BooleanRuns x = new BooleanRuns();
        int one = x.node(RANGE, 511, 511);
        int always = x.node(TEST, one, test(0, 1, 999));
        int never = x.node(TEST, one, test(0, 1, 0));
        dueBounds(x, "one that is always passed", always, 511, true, false);
        dueBounds(x, "one that is never passed", never, 511, true, false);
        dueBounds(x, "one whose PART does not match", always, 510, false, false);
        dueBounds(x, "a TEST of a TEST", x.node(TEST, never, test(0, 1, 1)), 511, true, false);
        due("no TEST was ASKED", x.sum(2), 0);
    }

    private static void bestBounds() {
        sentence("3: MAY: that of one PART or more; SURE likewise.");
        BooleanRuns x = new BooleanRuns();
        int one = x.node(RANGE, 5, 5);
        int unsure = passing(x, one);
        int nothing = x.node(NOTHING, 0, 0);
        dueBounds(x, "of none", x.node(BEST, 0, 0), 5, false, false);
        dueBounds(x, "of one", group(x, BEST, 0, SHOULD, one), 5, true, true);
        dueBounds(x, "of one that is unsure", group(x, BEST, 0, SHOULD, unsure), 5, true, false);
        dueBounds(x, "of both", group(x, BEST, 0, SHOULD, unsure, SHOULD, one), 5, true, true);
        dueBounds(x, "of NOTHINGS", group(x, BEST, 0, times(8, SHOULD, nothing)), 5, false, false);
        dueBounds(x, "by the eighth", group(x, BEST, 0, joined(times(7, SHOULD, nothing), row(SHOULD, one))), 5, true, true);
        dueBounds(x, "another object", group(x, BEST, 0, SHOULD, one), 6, false, false);
    }

    /** Makes a RANGE of all (0), a TEST of it (1), a NOTHING (2). */
    private static BooleanRuns sureUnsureNothing() {
        BooleanRuns x = new BooleanRuns();
        x.node(RANGE, 0, 511);
        passing(x, 0);
        x.node(NOTHING, 0, 0);
        return x;
    }

    private static void boolMay() {
        sentence("2: as it matches, but by the MAY of its MUSTS, FILTERS, SHOULDS and the SURE of its NOTS");
        BooleanRuns x = sureUnsureNothing();
        for (int role : row(MUST, FILTER, SHOULD)) {
            due("a sure one as " + role, x.may(group(x, BOOL, 0, role, 0), 5), true);
            due("an unsure one as " + role, x.may(group(x, BOOL, 0, role, 1), 5), true);
            due("NOTHING as " + role, x.may(group(x, BOOL, 0, role, 2), 5), false);
        }
        due("a sure NOT", x.may(group(x, BOOL, 0, MUST, 0, NOT, 0), 5), false);
        due("an unsure NOT", x.may(group(x, BOOL, 0, MUST, 0, NOT, 1), 5), true);
        due("NOTHING as NOT", x.may(group(x, BOOL, 0, MUST, 0, NOT, 2), 5), true);
        due("a sure NOT behind an unsure one", x.may(group(x, BOOL, 0, MUST, 0, NOT, 1, NOT, 0), 5), false);
        due("an empty BOOL", x.may(x.node(BOOL, 0, 0), 5), false);
        due("NOTS alone", x.may(group(x, BOOL, 0, NOT, 2), 5), false);
        due("SHOULDS that are NOTHING", x.may(group(x, BOOL, 0, SHOULD, 2, SHOULD, 2), 5), false);
        due("a MUST and a free SHOULD", x.may(group(x, BOOL, 0, MUST, 0, SHOULD, 2), 5), true);
    }

    private static void boolSure() {
        sentence("SURE: by the SURE of its MUSTS, FILTERS, SHOULDS and the MAY of its NOTS");
        BooleanRuns x = sureUnsureNothing();
        for (int role : row(MUST, FILTER, SHOULD)) {
            due("a sure one as " + role, x.sure(group(x, BOOL, 0, role, 0), 5), true);
            due("an unsure one as " + role, x.sure(group(x, BOOL, 0, role, 1), 5), false);
            due("NOTHING as " + role, x.sure(group(x, BOOL, 0, role, 2), 5), false);
        }
        due("a sure NOT", x.sure(group(x, BOOL, 0, MUST, 0, NOT, 0), 5), false);
        due("an unsure NOT", x.sure(group(x, BOOL, 0, MUST, 0, NOT, 1), 5), false);
        due("NOTHING as NOT", x.sure(group(x, BOOL, 0, MUST, 0, NOT, 2), 5), true);
        due("an empty BOOL", x.sure(x.node(BOOL, 0, 0), 5), false);
        due("NOTS alone", x.sure(group(x, BOOL, 0, NOT, 2), 5), false);
        due("an unsure SHOULD alone", x.sure(group(x, BOOL, 0, SHOULD, 1), 5), false);
        due("a MUST and an unsure SHOULD", x.sure(group(x, BOOL, 0, MUST, 0, SHOULD, 1), 5), true);
    }

    private static void boundsOfLeast() {
        sentence("2: as it matches, but by the MAY ..; SURE: by the SURE .. (LEAST)");
        for (int least = 0; least <= 8; least++) {
            BooleanRuns x = sureUnsureNothing();
            for (int many = 0; many <= 8; many++) {
                int node = group(x, BOOL, least, joined(times(many, SHOULD, 0), times(8 - many, SHOULD, 1)));
                boolean enough = many >= Math.max(1, least);
                for (int object : row(0, 5, 64, 511)) {
                    dueBounds(x, many + " sure ones for " + least, node, object, true, enough);
                }
                node = group(x, BOOL, least, joined(times(many, SHOULD, 1), times(8 - many, SHOULD, 2)));
                for (int object : row(0, 5, 64, 511)) {
                    dueBounds(x, many + " unsure ones for " + least, node, object, enough, false);
                }
            }
            dueBounds(x, "too few PARTS for " + least, group(x, BOOL, least, MUST, 0), 5, least == 0, least == 0);
        }
    }

    private static void boundsOfNone() {
        sentence("False: also there is no such NODE, object.");
        BooleanRuns x = new BooleanRuns();
        dueBounds(x, "the first NODE, not made", 0, 0, false, false);
        x.node(RANGE, 0, 511);
        dueBounds(x, "object 0", 0, 0, true, true);
        dueBounds(x, "object 511", 0, 511, true, true);
        for (int object : row(-1, 512, MIN, MAX)) dueBounds(x, "object " + object, 0, object, false, false);
        for (int node : row(-1, 1, 79, 80, MIN, MAX)) dueBounds(x, "node " + node, node, 0, false, false);
    }

    private static void boundsFollowChanges() {
        sentence("MAY and SURE of a NODE and an object (they go with every change)");
        BooleanRuns x = threeLists();
        int bool = group(x, BOOL, 0, MUST, 0);
        int above = x.node(CONSTANT, bool, 1);
        dueBounds(x, "ahead", above, 3, true, true);
        x.part(bool, NOT, 2);
        dueBounds(x, "after a part()", above, 3, false, false);
        x.take(2, 3);
        dueBounds(x, "after a take()", above, 3, true, true);
        x.take(0, 3);
        dueBounds(x, "after another", above, 3, false, false);
        x.put(0, 3, 1);
        dueBounds(x, "after a put()", above, 3, true, true);
        int kept = x.node(KEPT, failing(x, 0), 0);
        int top = x.node(CONSTANT, kept, 1);
        dueBounds(x, "without a SET", top, 3, true, false);
        x.keep(kept);
        dueBounds(x, "after a keep()", top, 3, false, false);
        x.put(0, 3, 1);
        dueBounds(x, "after the SET went", top, 3, true, false);
    }

    private static void goneThroughOnce() {
        sentence("each NODE that it comes to is gone through once; what came of it then holds, if it comes there again");
        BooleanRuns x = threeLists();
        int yes = passing(x, 0);
        int no = failing(x, 0);
        due("eight times", x.look(group(x, BOOL, 0, times(8, MUST, yes)), 1), 1);
        due("asked once", x.told(yes, 5), 1);
        due("score", x.scored(), 80);
        int constant = x.node(CONSTANT, yes, 3);
        due("by two ways", x.look(group(x, BOOL, 0, MUST, constant, FILTER, yes, SHOULD, yes), 2), 1);
        due("asked once more", x.told(yes, 5), 2);
        due("score", x.scored(), 23);
        due("one that fails", x.look(group(x, BEST, 0, times(8, SHOULD, no)), 1), 0);
        due("asked once", x.told(no, 5), 1);
        due("a FILTER that was come to as a NOT", x.look(group(x, BOOL, 0, MUST, 0, NOT, no, SHOULD, no), 1), 1);
        due("asked once more", x.told(no, 5), 2);
        due("the next LOOK", x.look(yes, 1), 1);
        due("asks again", x.told(yes, 5), 3);
    }

    private static void notIfMayIsNot() {
        sentence("if MAY is not so, it does not match");
        BooleanRuns x = threeLists();
        int yes = passing(x, 0);
        due("a MUST that may not be", x.look(group(x, BOOL, 0, MUST, yes, MUST, 2), 1), 0);
        due("a NOT that is sure", x.look(group(x, BOOL, 0, MUST, yes, NOT, 0), 1), 0);
        due("too few SHOULDS may be", x.look(group(x, BOOL, 2, MUST, yes, SHOULD, 1, SHOULD, 0), 1), 0);
        due("more SHOULDS than there are", x.look(group(x, BOOL, 1, MUST, yes), 1), 0);
        due("a TEST whose PART may not be", x.look(yes, 4), 0);
        due("nothing was ASKED", x.sum(2), 0);
        int inner = group(x, BOOL, 0, MUST, yes, NOT, 0);
        due("a SHOULD that may not be", x.look(group(x, BOOL, 0, MUST, 0, SHOULD, inner), 1), 1);
        due("is not gone through", x.sum(2), 0);
    }

    private static void matchesAtOnce() {
        sentence("0, 1, 7, and 6 with a SET: it matches. 4, and 6 without one: its PART is come to.");
        BooleanRuns x = threeLists();
        int yes = passing(x, 0);
        int kept = x.node(KEPT, yes, 0);
        due("KEPT without a SET", x.look(kept, 1), 1);
        due("its PART is come to", x.told(yes, 5), 1);
        due("CONSTANT", x.look(x.node(CONSTANT, yes, 9), 1), 1);
        due("its PART is come to", x.told(yes, 5), 2);
        due("keep", x.keep(kept), 3);
        due("asked by it", x.told(yes, 5), 5);
        due("KEPT with a SET", x.look(kept, 1), 1);
        due("one that is not in it", x.look(kept, 4), 0);
        due("its PART is not come to", x.told(yes, 5), 5);
    }

    private static void askedIfPartMatches() {
        sentence("5: its PART is come to; if that matches, the TEST is ASKED.");
        BooleanRuns x = threeLists();
        int no = failing(x, 0);
        int after = passing(x, no);
        int outer = passing(x, after);
        due("the first fails", x.look(outer, 1), 0);
        due("it was asked", x.told(no, 5), 1);
        due("the second was not", x.told(after, 5), 0);
        due("nor the third", x.told(outer, 5), 0);
        int yes = passing(x, 0);
        int last = failing(x, yes);
        due("the last fails", x.look(last, 1), 0);
        due("both were asked", x.told(yes, 5) + x.told(last, 5), 2);
    }

    private static void allOfBest() {
        sentence("3: its PARTS in order are come to.");
        BooleanRuns x = threeLists();
        int best = x.node(BEST, 0, 0);
        int[] tests = new int[8];
        for (int i = 0; i < 8; i++) tests[i] = i % 2 == 0 ? passing(x, 0) : failing(x, 0);
        int all = x.node(BEST, 0, 0);
        for (int test : tests) x.part(all, SHOULD, test);
        due("of none", x.look(best, 1), 0);
        due("of eight", x.look(all, 1), 1);
        for (int test : tests) due("asked", x.told(test, 5), 1);
    }

    private static void fullBestsSideBySide() {
        sentence("3: its PARTS in order are come to. (no other's)");
        BooleanRuns x = threeLists();
        int yes = passing(x, 0);
        int other = passing(x, 0);
        int full = group(x, BEST, 0, times(8, SHOULD, yes));
        int next = group(x, BEST, 0, times(8, SHOULD, other));
        due("the one behind", x.look(next, 1), 1);
        due("the full one", x.look(full, 1), 1);
        due("its own was asked", x.told(yes, 5), 1);
        due("the other's was not again", x.told(other, 5), 1);
        while (x.sum(0) < 79) x.node(NOTHING, 0, 0);
        due("the last NODE, full", x.look(group(x, BEST, 0, times(8, SHOULD, yes)), 1), 1);
        due("its cost", x.told(79, 4), 24);
    }

    private static void firstNodes() {
        sentence("A LOOK at an object by a NODE (the first NODE of all, of each kind that it can be)");
        for (int kind : row(LIST, RANGE, BOOL, BEST, NOTHING)) {
            BooleanRuns x = new BooleanRuns();
            due("node", x.node(kind, 0, 0), 0);
            boolean has = kind == RANGE;
            due("look", x.look(0, 0), has ? 1 : 0);
            dueBounds(x, "kind " + kind, 0, 0, has, has);
            due("cost", x.told(0, 4), has ? 1 : 0);
            due("run", x.run(0), has ? 1 : 0);
            due("cost of what is over it", x.told(x.node(CONSTANT, 0, 4), 4), has ? 1 : 0);
            due("look at what is over it", x.look(1, 0), has ? 1 : 0);
        }
    }

    private static void fullBoolsSideBySide() {
        sentence("2: its MUSTS and FILTERS .. its NOTS .. all its SHOULDS (of BOOLS of 8 side by side)");
        BooleanRuns x = threeLists();
        int yes = passing(x, 0);
        int no = failing(x, 0);
        int[] bools = new int[4];
        for (int i = 0; i < 4; i++) {
            bools[i] = group(x, BOOL, 0, joined(times(7, i % 2 == 0 ? MUST : SHOULD, yes), row(NOT, no)));
        }
        int empty = x.node(BOOL, 0, 0);
        due("an empty one behind them", x.look(empty, 1), 0);
        for (int i = 3; i >= 0; i--) {
            due("look", x.look(bools[i], 2), 1);
            due("score", x.scored(), 140);
        }
        due("each asked once by each", x.told(yes, 5) + x.told(no, 5), 8);
        while (x.sum(0) < 79) x.node(NOTHING, 0, 0);
        due("the last NODE, full", x.look(group(x, BOOL, 0, times(8, MUST, yes)), 1), 1);
        due("its score", x.scored(), 80);
    }

    private static void byCosts() {
        sentence("its MUSTS and FILTERS by their COSTS, the least first, of like COSTS in order, till one does not match");
        BooleanRuns x = threeLists();
        int dear = failing(x, 0);
        int cheap = failing(x, 2);
        due("the dear one ahead", x.look(group(x, BOOL, 0, MUST, dear, MUST, cheap), 3), 0);
        due("the cheap one", x.told(cheap, 5), 1);
        due("not the dear one", x.told(dear, 5), 0);
        due("a FILTER that is cheap", x.look(group(x, BOOL, 0, MUST, dear, FILTER, cheap), 3), 0);
        due("the cheap one", x.told(cheap, 5), 2);
        due("not the dear one", x.told(dear, 5), 0);
        int like = failing(x, 1);
        due("like COSTS", x.look(group(x, BOOL, 0, FILTER, like, MUST, dear), 3), 0);
        due("the first of them", x.told(like, 5), 1);
        due("not the second", x.told(dear, 5), 0);
        due("the other way about", x.look(group(x, BOOL, 0, MUST, dear, FILTER, like), 3), 0);
        due("the first of them", x.told(dear, 5), 1);
        due("not the second", x.told(like, 5), 1);
    }

    private static void eightByCosts() {
        sentence("by their COSTS, the least first (eight of them)");
        BooleanRuns x = new BooleanRuns();
        int[] tests = new int[8];
        for (int i = 0; i < 8; i++) tests[i] = passing(x, x.node(RANGE, 0, 99 - 10 * i));
        int stop = failing(x, x.node(RANGE, 0, 60));
        int bool = x.node(BOOL, 0, 0);
        for (int i = 0; i < 7; i++) x.part(bool, i % 2, tests[i]);
        x.part(bool, FILTER, stop);
        due("the one of cost 61 fails", x.look(bool, 7), 0);
        for (int i = 0; i < 7; i++) due("asked: cost " + (100 - 10 * i), x.told(tests[i], 5), 100 - 10 * i < 61 ? 1 : 0);
        due("itself", x.told(stop, 5), 1);
    }

    private static void orderGoesWithCosts() {
        sentence("by their COSTS, the least first (as they are then)");
        BooleanRuns x = threeLists();
        int first = failing(x, 2);
        int second = failing(x, 1);
        int bool = group(x, BOOL, 0, MUST, second, MUST, first);
        x.look(bool, 3);
        due("cost 1 ahead of 3", x.told(first, 5), 1);
        x.put(2, 100, 1);
        x.put(2, 101, 1);
        x.look(bool, 3);
        due("like: in order", x.told(second, 5), 1);
        x.take(1, 2);
        x.put(2, 102, 1);
        x.look(bool, 3);
        due("cost 2 ahead of 4", x.told(second, 5), 2);
        due("no more", x.told(first, 5), 1);
        int few = x.node(TEST, x.node(RANGE, 3, 200), test(1, 200, 4));
        int kept = x.node(KEPT, few, 0);
        int over = failing(x, kept);
        int other = failing(x, 0);
        int both = group(x, BOOL, 0, MUST, over, MUST, other);
        x.look(both, 3);
        due("cost 3 ahead of 198", x.told(other, 5), 1);
        due("a SET of 3 and 200", x.keep(kept), 2);
        x.look(both, 3);
        due("cost 2 ahead of 3", x.told(over, 5), 1);
        due("no more", x.told(other, 5), 1);
    }

    private static void sureFilters() {
        sentence("a FILTER that is SURE matches without being come to, others are come to");
        BooleanRuns x = threeLists();
        int yes = passing(x, 1);
        int either = group(x, BEST, 0, SHOULD, 0, SHOULD, yes);
        due("a sure FILTER", x.look(group(x, BOOL, 0, FILTER, either), 2), 1);
        due("is not come to", x.told(yes, 5), 0);
        due("an unsure FILTER", x.look(group(x, BOOL, 0, FILTER, either), 4), 1);
        due("is come to", x.told(yes, 5), 1);
        due("a sure MUST", x.look(group(x, BOOL, 0, MUST, either), 2), 1);
        due("is come to", x.told(yes, 5), 2);
        due("a sure SHOULD", x.look(group(x, BOOL, 0, SHOULD, either), 2), 1);
        due("is come to", x.told(yes, 5), 3);
        due("FILTER and SHOULD", x.look(group(x, BOOL, 0, FILTER, either, SHOULD, either), 2), 1);
        due("once, as SHOULD", x.told(yes, 5), 4);
        due("with its score", x.scored(), 200);
    }

    private static void notsInOrder() {
        sentence("If all match, its NOTS in order, till one matches, likewise (SURE).");
        BooleanRuns x = threeLists();
        int yes = passing(x, 0);
        int no = failing(x, 0);
        int later = failing(x, 2);
        int bool = group(x, BOOL, 0, MUST, 0, NOT, no, NOT, yes, NOT, later, SHOULD, later);
        due("the second NOT matches", x.look(bool, 3), 0);
        due("the first was asked", x.told(no, 5), 1);
        due("the second too", x.told(yes, 5), 1);
        due("not the third, though it is cheap", x.told(later, 5), 0);
        int turned = group(x, BOOL, 0, NOT, yes, NOT, no, MUST, 0);
        due("the first NOT matches", x.look(turned, 3), 0);
        due("not the second", x.told(no, 5), 1);
        int unmatched = group(x, BOOL, 0, NOT, yes, MUST, later);
        due("a MUST does not match", x.look(unmatched, 3), 0);
        due("then no NOT is come to", x.told(yes, 5), 2);
        int none = group(x, BOOL, 0, MUST, 0, NOT, no, NOT, later);
        due("none of them matches", x.look(none, 3), 1);
        due("all were asked", x.told(no, 5) + x.told(later, 5), 4);
    }

    /** A sure NOT never gets so far, since MAY is not so then; under a SHOULD neither. */
    private static void sureNots() {
        sentence("its NOTS .. likewise (SURE) (a sure NOT is not come to)");
        BooleanRuns x = threeLists();
        int yes = passing(x, 0);
        int either = group(x, BEST, 0, SHOULD, 1, SHOULD, yes);
        due("a sure NOT", x.look(group(x, BOOL, 0, MUST, 0, NOT, either), 2), 0);
        due("nothing was asked", x.sum(2), 0);
        due("an unsure NOT", x.look(group(x, BOOL, 0, MUST, 0, NOT, either), 1), 0);
        due("is come to", x.sum(2), 1);
    }

    private static void allShoulds() {
        sentence("If none does, all its SHOULDS in order are come to; then it is seen whether enough match.");
        BooleanRuns x = threeLists();
        int yes = passing(x, 0);
        int no = failing(x, 0);
        int also = passing(x, 0);
        int never = failing(x, 0);
        due("one is enough", x.look(group(x, BOOL, 1, SHOULD, yes, SHOULD, no, SHOULD, also), 1), 1);
        for (int test : row(yes, no, also)) due("all are come to", x.told(test, 5), 1);
        due("too few", x.look(group(x, BOOL, 3, SHOULD, no, SHOULD, never, SHOULD, yes), 1), 0);
        for (int test : row(no, yes)) due("all are come to", x.told(test, 5), 2);
        due("all are come to", x.told(never, 5), 1);
        due("LEAST 0 with a MUST", x.look(group(x, BOOL, 0, MUST, 0, SHOULD, yes, SHOULD, no), 1), 1);
        for (int test : row(no, yes)) due("all are come to", x.told(test, 5), 3);
        due("none matches, LEAST 0, no MUST", x.look(group(x, BOOL, 0, SHOULD, no, SHOULD, never), 1), 0);
        due("all are come to", x.told(never, 5), 2);
        due("a NOT matches", x.look(group(x, BOOL, 0, SHOULD, never, NOT, also, MUST, 0), 1), 0);
        due("then none is come to", x.told(never, 5), 2);
    }

    private static void costsOfPlain() {
        sentence("COSTS: 0 how many objects it has; 1 how many; 7 0");
        BooleanRuns x = new BooleanRuns();
        int list = x.node(LIST, 0, 0);
        due("an empty LIST", x.told(list, 4), 0);
        for (int i = 0; i < 60; i++) x.put(0, i, 0);
        due("a full LIST", x.told(list, 4), 60);
        x.take(0, 3);
        due("one less", x.told(list, 4), 59);
        due("a RANGE of one", x.told(x.node(RANGE, 511, 511), 4), 1);
        due("a RANGE of two", x.told(x.node(RANGE, 0, 1), 4), 2);
        due("a RANGE of all", x.told(x.node(RANGE, 0, 511), 4), 512);
        due("NOTHING", x.told(x.node(NOTHING, 0, 0), 4), 0);
    }

    private static void costsOfOnes() {
        sentence("6 with a SET how many; without, 4, 5: its PART's");
        BooleanRuns x = new BooleanRuns();
        int range = x.node(RANGE, 1, 40);
        int constant = x.node(CONSTANT, range, 1000000);
        int test = failing(x, constant);
        int kept = x.node(KEPT, test, 0);
        due("CONSTANT", x.told(constant, 4), 40);
        due("TEST", x.told(test, 4), 40);
        due("KEPT without a SET", x.told(kept, 4), 40);
        x.keep(kept);
        due("KEPT with an empty SET", x.told(kept, 4), 0);
        due("what is over it", x.told(x.node(CONSTANT, kept, 1), 4), 0);
        int full = x.node(KEPT, x.node(RANGE, 0, 511), 0);
        x.keep(full);
        due("KEPT with all", x.told(full, 4), 512);
    }

    private static void costsTogether() {
        sentence("3: of its PARTS together, 512 at most.");
        BooleanRuns x = new BooleanRuns();
        int most = x.node(RANGE, 0, 509);
        int one = x.node(RANGE, 0, 0);
        int all = x.node(RANGE, 0, 511);
        due("of none", x.told(x.node(BEST, 0, 0), 4), 0);
        due("511", x.told(group(x, BEST, 0, SHOULD, most, SHOULD, one), 4), 511);
        due("512", x.told(group(x, BEST, 0, SHOULD, most, SHOULD, one, SHOULD, one), 4), 512);
        due("513 is cut", x.told(group(x, BEST, 0, SHOULD, most, SHOULD, one, SHOULD, one, SHOULD, one), 4), 512);
        int eight = group(x, BEST, 0, times(8, SHOULD, all));
        due("4096 is cut", x.told(eight, 4), 512);
        due("so is what is over it", x.told(group(x, BEST, 0, times(8, SHOULD, eight)), 4), 512);
        int ones = group(x, BEST, 0, times(8, SHOULD, one));
        group(x, BEST, 0, times(8, SHOULD, all));
        due("the same one eight times", x.told(ones, 4), 8);
    }

    private static void costsOfBools() {
        sentence("2: the least of its MUSTS and FILTERS; without such of its SHOULDS together, 512 at most.");
        BooleanRuns x = new BooleanRuns();
        int ten = x.node(RANGE, 0, 9);
        int twenty = x.node(RANGE, 0, 19);
        int one = x.node(RANGE, 0, 0);
        int nothing = x.node(NOTHING, 0, 0);
        int all = x.node(RANGE, 0, 511);
        due("MUSTS", x.told(group(x, BOOL, 0, MUST, twenty, MUST, ten, MUST, twenty), 4), 10);
        due("FILTERS", x.told(group(x, BOOL, 0, FILTER, ten, FILTER, twenty), 4), 10);
        due("a cheaper FILTER", x.told(group(x, BOOL, 0, MUST, twenty, FILTER, ten), 4), 10);
        due("a cheaper NOT, SHOULD", x.told(group(x, BOOL, 0, NOT, one, MUST, twenty, SHOULD, one), 4), 20);
        due("a MUST of cost 0", x.told(group(x, BOOL, 0, SHOULD, ten, MUST, nothing, MUST, one), 4), 0);
        due("a MUST of cost 512", x.told(group(x, BOOL, 0, SHOULD, ten, MUST, all), 4), 512);
        due("SHOULDS", x.told(group(x, BOOL, 2, SHOULD, ten, NOT, all, SHOULD, twenty), 4), 30);
        due("SHOULDS of 512", x.told(group(x, BOOL, 0, SHOULD, all), 4), 512);
        due("SHOULDS of 513", x.told(group(x, BOOL, 0, SHOULD, all, SHOULD, one), 4), 512);
        due("NOTS alone", x.told(group(x, BOOL, 0, NOT, ten), 4), 0);
        due("none", x.told(x.node(BOOL, 0, 0), 4), 0);
    }

    private static void looksAtNone() {
        sentence("A LOOK: 1 it matches, 0. BAD.");
        BooleanRuns x = new BooleanRuns();
        due("the first NODE, not made", x.look(0, 0), BAD);
        x.node(RANGE, 0, 510);
        due("object 0", x.look(0, 0), 1);
        due("object 510", x.look(0, 510), 1);
        due("object 511", x.look(0, 511), 0);
        for (int object : row(-1, 512, MIN, MAX)) due("object " + object, x.look(0, object), BAD);
        for (int node : row(-1, 1, 79, 80, MIN, MAX)) due("node " + node, x.look(node, 0), BAD);
    }

    private static void latestScore() {
        sentence("The SCORE of the latest look() that answered 1; 0 without one.");
        BooleanRuns x = threeLists();
        due("without one", x.scored(), 0);
        x.look(0, 4);
        due("after one that answered 0", x.scored(), 0);
        x.look(3, 1);
        due("after one that was BAD", x.scored(), 0);
        x.run(0);
        due("after a run()", x.scored(), 0);
        x.look(0, 3);
        due("after one that answered 1", x.scored(), 30);
        x.look(0, 4);
        due("after one that answered 0", x.scored(), 30);
        x.look(0, 512);
        due("after one that was BAD", x.scored(), 30);
        x.run(1);
        x.next(x.open(1), 0);
        x.keep(x.node(KEPT, 1, 0));
        due("after LOOKS by other calls", x.scored(), 30);
        x.put(0, 3, 31);
        due("after another weight", x.scored(), 30);
        x.look(x.node(RANGE, 0, 9), 3);
        due("a SCORE of 0", x.scored(), 0);
    }

    private static void deepestQuery() {
        sentence("NODES .. 80 at most (80 deep, each twice in the next)");
        BooleanRuns x = new BooleanRuns();
        x.put(0, 511, 1);
        int node = x.node(LIST, 0, 0);
        int test = passing(x, node);
        node = test;
        for (int i = 2; i < 80; i++) node = group(x, i % 2 == 0 ? BOOL : BEST, 0, SHOULD, node, SHOULD, node);
        due("look", x.look(node, 511), 1);
        due("asked once", x.told(test, 5), 1);
        due("score", x.scored(), 1L << 39);
        due("run", x.run(node), 1);
        due("cost", x.told(node, 4), 512);
        dueBounds(x, "the top", node, 511, true, false);
        due("no other", x.look(node, 510), 0);
    }

    public static void main(String[] args) {
        plainBounds();
        keptBounds();
        testBounds();
        bestBounds();
        boolMay();
        boolSure();
        boundsOfLeast();
        boundsOfNone();
        boundsFollowChanges();
        goneThroughOnce();
        notIfMayIsNot();
        matchesAtOnce();
        askedIfPartMatches();
        allOfBest();
        fullBestsSideBySide();
        firstNodes();
        fullBoolsSideBySide();
        byCosts();
        eightByCosts();
        orderGoesWithCosts();
        sureFilters();
        notsInOrder();
        sureNots();
        allShoulds();
        costsOfPlain();
        costsOfOnes();
        costsTogether();
        costsOfBools();
        looksAtNone();
        latestScore();
        deepestQuery();
        finish("LookBoundaryTests");
    }
}
