/** The boundary cases of NODES WRITTEN ANEW: section 3 of the terms, and promise 19. */
public final class RewriteBoundaryTests extends Checks {
    /** What is written anew must be a NODE that is made by it: the next number. */
    private static int anew(BooleanRuns x, int node) {
        int count = x.sum(0);
        due("a new one for " + node, x.rewrite(node), count);
        due("one more", x.sum(0), count + 1);
        return count;
    }

    /** What is written anew must be a NODE that is there. */
    private static void dueThere(BooleanRuns x, String what, int node, int want) {
        int count = x.sum(0);
        due(what, x.rewrite(node), want);
        due(what + ": none is made", x.sum(0), count);
    }

    private static void leastThatIsSo() {
        sentence("A NODE THAT IS SO is the least one with that kind, these numbers, and these PARTS with their ROLES in this order");
        BooleanRuns x = threeLists();
        int[] parts = {MUST, 0, FILTER, 1, NOT, 2};
        int first = group(x, BOOL, 0, parts);
        int second = group(x, BOOL, 0, parts);
        int third = group(x, BOOL, 0, parts);
        dueThere(x, "the third", third, first);
        dueThere(x, "the second", second, first);
        dueThere(x, "the first", first, first);
        int best = group(x, BEST, 3, SHOULD, 0, SHOULD, 1);
        dueThere(x, "BEST", group(x, BEST, 3, SHOULD, 0, SHOULD, 1), best);
        for (int kind = CONSTANT; kind <= KEPT; kind++) {
            int one = x.node(kind, 0, 1000);
            x.node(kind, 0, 1000);
            dueThere(x, "kind " + kind, x.node(kind, 0, 1000), one);
        }
    }

    private static void notSo() {
        sentence("with that kind, these numbers, and these PARTS with their ROLES in this order; if there is none, a new one");
        BooleanRuns x = threeLists();
        int range = x.node(RANGE, 0, 9);
        int[][] rows = {
            {MUST, 0, MUST, 1}, {MUST, 1, MUST, 0}, {MUST, 0, FILTER, 1}, {FILTER, 0, FILTER, 1}, {MUST, 0, NOT, 1},
            {MUST, 0, SHOULD, 1}, {MUST, 0, MUST, 1, MUST, 2}, {MUST, 0, MUST, 1, SHOULD, 1, SHOULD, 2}};
        for (int[] row : rows) {
            int node = group(x, BOOL, 0, row);
            dueThere(x, "other PARTS or ROLES", node, node);
        }
        int least = group(x, BOOL, 1, MUST, 0, MUST, 1, SHOULD, 1, SHOULD, 2);
        dueThere(x, "another LEAST", least, least);
        int share = group(x, BEST, 1, SHOULD, 0, SHOULD, 1);
        dueThere(x, "another kind", share, share);
        int other = group(x, BEST, 2, SHOULD, 0, SHOULD, 1);
        dueThere(x, "another SHARE", other, other);
        for (int[] numbers : new int[][] {{CONSTANT, 0, 1}, {CONSTANT, 0, 2}, {CONSTANT, 1, 1}, {TEST, 0, 1000}, {TEST, 0, 1001},
            {TEST, 1, 1000}, {RANGE, 0, 8}, {RANGE, 1, 9}, {KEPT, 0, 0}, {KEPT, 1, 0}}) {
            int node = x.node(numbers[0], numbers[1], numbers[2]);
            dueThere(x, "another number", node, node);
        }
        dueThere(x, "the RANGE", range, range);
    }

    private static void partsFirst() {
        sentence("(the NEWS of its PARTS first, NODE by NODE from the least number on of all that are under it)");
        BooleanRuns x = threeLists();
        int[] tops = new int[3];
        for (int list = 2; list >= 0; list--) tops[list] = x.node(CONSTANT, x.node(CONSTANT, list, 1), 2 + list);
        int beside = x.node(CONSTANT, x.node(CONSTANT, 0, 1), 9);
        int all = group(x, BEST, 0, SHOULD, tops[0], SHOULD, tops[1], SHOULD, tops[2]);
        int count = x.sum(0);
        due("the top is the last", x.rewrite(all), count + 3);
        due("the one made first", x.told(count, 2), 4);
        due("then the second", x.told(count + 1, 2), 3);
        due("then the third", x.told(count + 2, 2), 2);
        dueParts(x, count + 3, BEST, 0, SHOULD, count + 2, SHOULD, count + 1, SHOULD, count);
        due("none for what is beside it", x.sum(0), count + 4);
        due("which comes by itself", x.told(anew(x, beside), 2), 9);
    }

    private static void onlyUnderIt() {
        sentence("of all that are under it (and of no others)");
        BooleanRuns x = new BooleanRuns();
        x.put(0, 1, 1);
        int list = x.node(LIST, 0, 0);
        int other = x.node(LIST, 1, 0);
        x.put(1, 1, 1);
        int range = x.node(RANGE, 0, 9);
        int bool = group(x, BOOL, 0, MUST, range, SHOULD, range);
        dueThere(x, "the first NODE", list, list);
        dueThere(x, "the second", other, other);
        x.take(0, 1);
        x.take(1, 1);
        dueThere(x, "one that is not over the empty LISTS", range, range);
        dueThere(x, "another", bool, bool);
        due("the NOTHING comes now", x.told(anew(x, list), 0), NOTHING);
    }

    private static void underTheSecond() {
        sentence("of all that are under it (the first NODE under the second)");
        BooleanRuns x = new BooleanRuns();
        x.node(LIST, 0, 0);
        x.node(CONSTANT, 0, 5);
        x.node(CONSTANT, 1, 6);
        int nothing = anew(x, 2);
        due("all of it is NOTHING", x.told(nothing, 0), NOTHING);
        dueThere(x, "so is the second", 1, nothing);
    }

    private static void chains() {
        sentence("(the NEWS of its PARTS first .. ) (also where the end does not need them)");
        BooleanRuns x = threeLists();
        int node = 0;
        for (int i = 1; i <= 4; i++) node = x.node(CONSTANT, node, i);
        int count = x.sum(0);
        due("the fourth of a chain", x.rewrite(node), count + 2);
        for (int i = 0; i < 3; i++) {
            due("number " + i, x.told(count + i, 2), i + 2);
            due("part " + i, x.told(count + i, 1), 0);
        }
        due("three were made", x.sum(0), count + 3);
    }

    private static void emptyLists() {
        sentence("0: of a LIST without objects the NOTHING that is so; else, and of 1, 7, the one that is so.");
        BooleanRuns x = new BooleanRuns();
        int list = x.node(LIST, 3, 0);
        int nothing = anew(x, list);
        due("NOTHING", x.told(nothing, 0), NOTHING);
        dueThere(x, "again", list, nothing);
        x.put(3, 511, 0);
        dueThere(x, "with one object", list, list);
        x.take(3, 511);
        dueThere(x, "without it", list, nothing);
        dueThere(x, "another empty LIST", x.node(LIST, 4, 0), nothing);
        dueThere(x, "another NOTHING", x.node(NOTHING, 0, 0), nothing);
        int range = x.node(RANGE, 5, 5);
        dueThere(x, "RANGE", range, range);
        dueThere(x, "a like RANGE", x.node(RANGE, 5, 5), range);
        x.put(3, 0, 0);
        dueThere(x, "a like LIST", x.node(LIST, 3, 0), list);
    }

    private static void nothingMadeLater() {
        sentence("the NOTHING that is so (one with a greater number)");
        BooleanRuns x = new BooleanRuns();
        int list = x.node(LIST, 3, 0);
        x.node(RANGE, 0, 0);
        int nothing = x.node(NOTHING, 0, 0);
        x.node(NOTHING, 0, 0);
        dueThere(x, "the least NOTHING", list, nothing);
    }

    private static void constantsAnew() {
        sentence("4: of a NOTHING that; of a CONSTANT: its PART with the outer number; else the one that is so, with the NEW of its PART.");
        BooleanRuns x = threeLists();
        int nothing = x.node(NOTHING, 0, 0);
        dueThere(x, "of a NOTHING", x.node(CONSTANT, nothing, 5), nothing);
        dueThere(x, "of an empty LIST", x.node(CONSTANT, x.node(LIST, 9, 0), 5), nothing);
        int inner = x.node(CONSTANT, 1, 5);
        dueThere(x, "of a LIST", inner, inner);
        int outer = x.node(CONSTANT, inner, 0);
        int flat = anew(x, outer);
        dueParts(x, flat, CONSTANT, 1, MUST, 1);
        due("the outer number", x.told(flat, 2), 0);
        dueThere(x, "the same number in both", x.node(CONSTANT, inner, 5), inner);
        int like = x.node(LIST, 1, 0);
        dueThere(x, "of a like LIST", x.node(CONSTANT, like, 5), inner);
        int top = anew(x, x.node(CONSTANT, like, 6));
        dueParts(x, top, CONSTANT, 1, MUST, 1);
    }

    private static void testsAnew() {
        sentence("5: of a NOTHING that; else likewise.");
        BooleanRuns x = threeLists();
        int nothing = x.node(NOTHING, 0, 0);
        dueThere(x, "of a NOTHING", x.node(TEST, nothing, 1000), nothing);
        int test = x.node(TEST, 0, test(1, 2, 1));
        dueThere(x, "of a LIST", test, test);
        int outer = x.node(TEST, test, test(1, 2, 1));
        dueThere(x, "of a TEST", outer, outer);
        int constant = x.node(CONSTANT, 0, 4);
        int over = x.node(TEST, constant, 1000);
        dueThere(x, "of a CONSTANT", over, over);
        int kept = x.node(KEPT, 0, 0);
        over = x.node(TEST, kept, 1000);
        dueThere(x, "of a KEPT", over, over);
        dueThere(x, "of a like LIST", x.node(TEST, x.node(LIST, 0, 0), test(1, 2, 1)), test);
        dueThere(x, "one that never passes", failing(x, 0), x.sum(0) - 1);
    }

    private static void keptsAnew() {
        sentence("6: of a NOTHING, of a KEPT that; of a CONSTANT: KEPT of its PART; else likewise.");
        BooleanRuns x = threeLists();
        int nothing = x.node(NOTHING, 0, 0);
        dueThere(x, "of a NOTHING", x.node(KEPT, nothing, 0), nothing);
        int kept = x.node(KEPT, 0, 0);
        dueThere(x, "of a LIST", kept, kept);
        dueThere(x, "of a KEPT", x.node(KEPT, kept, 0), kept);
        dueThere(x, "of a KEPT of a KEPT", x.node(KEPT, x.node(KEPT, kept, 0), 0), kept);
        dueThere(x, "of a CONSTANT", x.node(KEPT, x.node(CONSTANT, 0, 3), 0), kept);
        int fresh = anew(x, x.node(KEPT, x.node(CONSTANT, 1, 3), 0));
        dueParts(x, fresh, KEPT, 1, MUST, 1);
        int test = x.node(TEST, 0, 1000);
        int over = x.node(KEPT, test, 0);
        dueThere(x, "of a TEST", over, over);
    }

    private static void bestsAnew() {
        sentence("3: without those PARTS that are NOTHING: none left: NOTHING; one left: that; else likewise.");
        BooleanRuns x = threeLists();
        int empty = x.node(LIST, 9, 0);
        int nothing = x.node(NOTHING, 0, 0);
        dueThere(x, "of none", x.node(BEST, 50, 0), nothing);
        dueThere(x, "of eight NOTHINGS", group(x, BEST, 50, times(8, SHOULD, nothing)), nothing);
        dueThere(x, "of one", group(x, BEST, 50, SHOULD, 2), 2);
        dueThere(x, "one left", group(x, BEST, 50, joined(times(7, SHOULD, empty), row(SHOULD, 1))), 1);
        int two = group(x, BEST, 50, SHOULD, 2, SHOULD, 2);
        dueThere(x, "two that are the same", two, two);
        dueThere(x, "two left", group(x, BEST, 50, SHOULD, empty, SHOULD, 2, SHOULD, nothing, SHOULD, 2), two);
        int eight = group(x, BEST, 50, times(8, SHOULD, 0));
        dueThere(x, "eight", eight, eight);
        int inner = group(x, BEST, 50, SHOULD, two, SHOULD, 0);
        dueThere(x, "a BEST in a BEST", inner, inner);
        int fresh = anew(x, group(x, BEST, 7, SHOULD, empty, SHOULD, 1, SHOULD, 0));
        dueParts(x, fresh, BEST, 7, SHOULD, 1, SHOULD, 0);
    }

    private static void nothingInBools() {
        sentence("a NOTHING as MUST or FILTER: all of it is NOTHING; as NOT, SHOULD: it is left out");
        BooleanRuns x = threeLists();
        int empty = x.node(LIST, 9, 0);
        int nothing = x.node(NOTHING, 0, 0);
        dueThere(x, "as MUST", group(x, BOOL, 0, MUST, 0, MUST, empty), nothing);
        dueThere(x, "as FILTER", group(x, BOOL, 0, FILTER, nothing, MUST, 0), nothing);
        dueThere(x, "as MUST, the eighth", group(x, BOOL, 0, joined(times(7, SHOULD, 0), row(MUST, nothing))), nothing);
        int rest = group(x, BOOL, 0, FILTER, 0, SHOULD, 1);
        dueThere(x, "as NOT", group(x, BOOL, 0, NOT, empty, FILTER, 0, SHOULD, 1), rest);
        dueThere(x, "as SHOULD", group(x, BOOL, 0, FILTER, 0, SHOULD, nothing, SHOULD, 1), rest);
        dueThere(x, "all that are left out", group(x, BOOL, 0, NOT, nothing, SHOULD, nothing), nothing);
        dueThere(x, "one is left", group(x, BOOL, 0, joined(times(7, NOT, nothing), row(MUST, 0))), 0);
    }

    private static void boolsAsMust() {
        sentence("As MUST a BOOL with LEAST 0 and without SHOULDS: its PARTS with their ROLES instead");
        BooleanRuns x = threeLists();
        int range = x.node(RANGE, 0, 99);
        int hard = group(x, BOOL, 0, FILTER, 0, MUST, 1, NOT, 2);
        int fresh = anew(x, group(x, BOOL, 0, MUST, hard, MUST, range));
        dueParts(x, fresh, BOOL, 0, FILTER, 0, MUST, 1, NOT, 2, MUST, range);
        dueThere(x, "alone", group(x, BOOL, 0, MUST, hard), hard);
        int filter = group(x, BOOL, 0, FILTER, 0);
        fresh = anew(x, group(x, BOOL, 0, SHOULD, range, MUST, filter));
        dueParts(x, fresh, BOOL, 0, SHOULD, range, FILTER, 0);
        fresh = anew(x, group(x, BOOL, 1, SHOULD, range, SHOULD, 0, MUST, filter));
        dueParts(x, fresh, BOOL, 1, SHOULD, range, SHOULD, 0, FILTER, 0);
        int free = group(x, BOOL, 0, MUST, 0, SHOULD, 1);
        int over = group(x, BOOL, 0, MUST, free, MUST, range);
        dueThere(x, "one with a SHOULD", over, over);
        int one = group(x, BOOL, 1, MUST, 0, SHOULD, 1, SHOULD, 2);
        over = group(x, BOOL, 0, MUST, one, MUST, range);
        dueThere(x, "one with LEAST 1", over, over);
        int other = x.node(RANGE, 0, 50);
        int deep = group(x, BOOL, 0, MUST, group(x, BOOL, 0, MUST, hard, NOT, range), FILTER, other);
        int count = x.sum(0);
        due("one in one in one", x.rewrite(deep), count + 1);
        dueParts(x, count + 1, BOOL, 0, FILTER, 0, MUST, 1, NOT, 2, NOT, range, FILTER, other);
    }

    private static void boolsAsFilter() {
        sentence("as FILTER such a one: its MUSTS and FILTERS as FILTERS, its NOTS as NOTS");
        BooleanRuns x = threeLists();
        int range = x.node(RANGE, 0, 99);
        int hard = group(x, BOOL, 0, MUST, 0, FILTER, 1, NOT, 2);
        int fresh = anew(x, group(x, BOOL, 0, FILTER, hard, MUST, range));
        dueParts(x, fresh, BOOL, 0, FILTER, 0, FILTER, 1, NOT, 2, MUST, range);
        fresh = anew(x, group(x, BOOL, 0, FILTER, hard));
        dueParts(x, fresh, BOOL, 0, FILTER, 0, FILTER, 1, NOT, 2);
        int free = group(x, BOOL, 0, MUST, 0, SHOULD, 1);
        int over = group(x, BOOL, 0, FILTER, free, MUST, range);
        dueThere(x, "one with a SHOULD", over, over);
        int soft = group(x, BOOL, 1, SHOULD, 0, SHOULD, 1);
        over = group(x, BOOL, 0, FILTER, soft);
        dueThere(x, "one of SHOULDS", over, over);
    }

    private static void boolsAsShould() {
        sentence("as SHOULD, if LEAST of both is 0 or 1, a BOOL of SHOULDS alone: its PARTS");
        BooleanRuns x = threeLists();
        int range = x.node(RANGE, 0, 99);
        int soft = group(x, BOOL, 1, SHOULD, 0, SHOULD, 1);
        for (int least = 0; least <= 1; least++) {
            int fresh = anew(x, group(x, BOOL, least, MUST, range, SHOULD, 2, SHOULD, soft));
            dueParts(x, fresh, BOOL, least, MUST, range, SHOULD, 2, SHOULD, 0, SHOULD, 1);
        }
        int outer = group(x, BOOL, 2, MUST, range, SHOULD, soft, SHOULD, 2, SHOULD, 0);
        dueThere(x, "the outer LEAST is 2", outer, outer);
        int two = group(x, BOOL, 2, SHOULD, 0, SHOULD, 1, SHOULD, 2);
        outer = group(x, BOOL, 1, MUST, range, SHOULD, two, SHOULD, 2);
        dueThere(x, "the inner LEAST is 2", outer, outer);
        int zero = group(x, BOOL, 0, SHOULD, 0, SHOULD, 1);
        dueThere(x, "alone, inner LEAST 0", group(x, BOOL, 0, SHOULD, zero), soft);
        dueThere(x, "alone, inner LEAST 1", group(x, BOOL, 1, SHOULD, soft), soft);
        int with = group(x, BOOL, 1, SHOULD, 0, SHOULD, 1, NOT, 2);
        outer = group(x, BOOL, 0, MUST, range, SHOULD, with);
        dueThere(x, "one with a NOT", outer, outer);
        with = group(x, BOOL, 1, SHOULD, 0, SHOULD, 1, FILTER, 2);
        outer = group(x, BOOL, 0, MUST, range, SHOULD, with);
        dueThere(x, "one with a FILTER", outer, outer);
        with = group(x, BOOL, 0, MUST, 0, MUST, 1);
        outer = group(x, BOOL, 0, MUST, range, SHOULD, with);
        dueThere(x, "one of MUSTS", outer, outer);
        outer = group(x, BOOL, 0, MUST, range, NOT, soft, NOT, with);
        dueThere(x, "both as NOT", outer, outer);
    }

    private static void roomForMust() {
        sentence("(These three only if the row, with what comes by it and one for each PART still to come, has 8 at most.) (MUST, FILTER)");
        for (int role : row(MUST, FILTER)) {
            for (int ahead = 0; ahead <= 6; ahead++) {
                BooleanRuns x = threeLists();
                int range = x.node(RANGE, 0, 99);
                int hard = group(x, BOOL, 0, FILTER, 0, NOT, 1);
                int[] before = times(ahead, SHOULD, range);
                int[] fitting = times(6 - ahead, SHOULD, range);
                int fits = group(x, BOOL, 0, joined(before, row(role, hard), fitting));
                dueParts(x, anew(x, fits), BOOL, 0, joined(before, row(FILTER, 0, NOT, 1), fitting));
                int[] more = times(7 - ahead, SHOULD, range);
                int full = group(x, BOOL, 0, joined(before, row(role, hard), more));
                dueThere(x, "nine with " + ahead + " ahead", full, full);
            }
        }
    }

    private static void roomForShould() {
        sentence("(These three only if the row, with what comes by it and one for each PART still to come, has 8 at most.) (SHOULD)");
        for (int ahead = 0; ahead <= 6; ahead++) {
            BooleanRuns x = threeLists();
            int range = x.node(RANGE, 0, 99);
            int soft = group(x, BOOL, 1, SHOULD, 0, SHOULD, 1);
            int[] before = times(ahead, MUST, range);
            int[] fitting = times(6 - ahead, MUST, range);
            int fits = group(x, BOOL, 0, joined(before, row(SHOULD, soft), fitting));
            dueParts(x, anew(x, fits), BOOL, 0, joined(before, row(SHOULD, 0, SHOULD, 1), fitting));
            int[] more = times(7 - ahead, MUST, range);
            int full = group(x, BOOL, 0, joined(before, row(SHOULD, soft), more));
            dueThere(x, "nine with " + ahead + " ahead", full, full);
        }
    }

    private static void roomByTurns() {
        sentence("(These three only if the row .. has 8 at most.) (one after another)");
        BooleanRuns x = threeLists();
        int range = x.node(RANGE, 0, 99);
        int two = group(x, BOOL, 0, FILTER, 0, NOT, range);
        int three = group(x, BOOL, 0, MUST, 0, FILTER, 1, NOT, range);
        int six = group(x, BOOL, 0, MUST, 0, MUST, 0, MUST, 0, MUST, 0, MUST, 0, MUST, 0);
        int eight = group(x, BOOL, 0, times(8, MUST, 1));
        int fresh = anew(x, group(x, BOOL, 0, MUST, six, MUST, three, MUST, 2));
        dueParts(x, fresh, BOOL, 0, joined(times(6, MUST, 0), row(MUST, three, MUST, 2)));
        fresh = anew(x, group(x, BOOL, 0, MUST, six, MUST, two));
        dueParts(x, fresh, BOOL, 0, joined(times(6, MUST, 0), row(NOT, range)));
        dueThere(x, "eight alone", group(x, BOOL, 0, MUST, eight), eight);
        int both = group(x, BOOL, 0, MUST, eight, MUST, 0);
        dueThere(x, "eight and one", both, both);
        both = group(x, BOOL, 0, MUST, 0, MUST, eight);
        dueThere(x, "one and eight", both, both);
    }

    private static void roomWithNothings() {
        sentence("and one for each PART still to come (also one that will be left out)");
        BooleanRuns x = threeLists();
        int nothing = x.node(NOTHING, 0, 0);
        int hard = group(x, BOOL, 0, MUST, 0, NOT, 1);
        int[] five = times(5, SHOULD, 2);
        int behind = anew(x, group(x, BOOL, 0, joined(times(1, SHOULD, 2), row(MUST, hard), five, row(NOT, nothing))));
        dueParts(x, behind, BOOL, 0, joined(times(1, SHOULD, 2), row(MUST, hard), five));
        int ahead = anew(x, group(x, BOOL, 0, joined(row(NOT, nothing), times(1, SHOULD, 2), row(MUST, hard), five)));
        dueParts(x, ahead, BOOL, 0, joined(times(1, SHOULD, 2), row(MUST, 0, NOT, 1), five));
    }

    private static void leastAbove() {
        sentence("LEAST above the number of SHOULDS: NOTHING.");
        BooleanRuns x = threeLists();
        int nothing = x.node(NOTHING, 0, 0);
        dueThere(x, "1 of none", group(x, BOOL, 1, MUST, 0), nothing);
        dueThere(x, "2 of one", group(x, BOOL, 2, MUST, 0, SHOULD, 1), nothing);
        dueThere(x, "8 of seven", group(x, BOOL, 8, times(7, SHOULD, 1)), nothing);
        dueThere(x, "8 of none", x.node(BOOL, 8, 0), nothing);
        dueThere(x, "1 of one that was left out", group(x, BOOL, 1, MUST, 0, SHOULD, nothing), nothing);
        int two = group(x, BOOL, 2, MUST, 0, SHOULD, 1, SHOULD, 2, SHOULD, nothing);
        dueParts(x, anew(x, two), BOOL, 0, MUST, 0, MUST, 1, MUST, 2);
        int stays = group(x, BOOL, 1, MUST, 0, SHOULD, 1, SHOULD, 2);
        dueThere(x, "1 of two", stays, stays);
    }

    private static void leastAboveAfterRow() {
        sentence("LEAST above the number of SHOULDS: NOTHING. (as they are in the row)");
        BooleanRuns x = threeLists();
        int nothing = x.node(NOTHING, 0, 0);
        int soft = group(x, BOOL, 1, SHOULD, 0, SHOULD, 1);
        int one = group(x, BOOL, 1, FILTER, 2, SHOULD, soft);
        dueParts(x, anew(x, one), BOOL, 1, FILTER, 2, SHOULD, 0, SHOULD, 1);
        dueThere(x, "2 of one of two", group(x, BOOL, 2, FILTER, 2, SHOULD, soft), nothing);
    }

    private static void nothingNeeded() {
        sentence("No MUST, no FILTER: no SHOULD: NOTHING; else LEAST is 1, if it was 0.");
        BooleanRuns x = threeLists();
        int nothing = x.node(NOTHING, 0, 0);
        dueThere(x, "an empty one", x.node(BOOL, 0, 0), nothing);
        dueThere(x, "a NOT", group(x, BOOL, 0, NOT, 0), nothing);
        dueThere(x, "eight NOTS", group(x, BOOL, 0, times(8, NOT, 0)), nothing);
        int two = anew(x, group(x, BOOL, 0, SHOULD, 0, SHOULD, 1));
        dueParts(x, two, BOOL, 1, SHOULD, 0, SHOULD, 1);
        dueThere(x, "LEAST 1 stays", group(x, BOOL, 1, SHOULD, 0, SHOULD, 1), two);
        int three = group(x, BOOL, 2, SHOULD, 0, SHOULD, 1, SHOULD, 2);
        dueThere(x, "LEAST 2 stays", three, three);
        int not = anew(x, group(x, BOOL, 0, NOT, 2, SHOULD, 0, SHOULD, 1));
        dueParts(x, not, BOOL, 1, NOT, 2, SHOULD, 0, SHOULD, 1);
        int must = group(x, BOOL, 0, MUST, 0, SHOULD, 1, SHOULD, 2);
        dueThere(x, "with a MUST LEAST 0 stays", must, must);
        int filter = group(x, BOOL, 0, FILTER, 0, SHOULD, 1, SHOULD, 2);
        dueThere(x, "with a FILTER LEAST 0 stays", filter, filter);
    }

    private static void allShoulds() {
        sentence("LEAST above 0 and the number of SHOULDS: these are MUSTS, LEAST is 0.");
        BooleanRuns x = threeLists();
        int two = group(x, BOOL, 2, SHOULD, 0, FILTER, 2, SHOULD, 1, NOT, 2);
        int nothing = x.node(NOTHING, 0, 0);
        dueThere(x, "with a NOT that is a FILTER", two, nothing);
        int fresh = anew(x, group(x, BOOL, 2, SHOULD, 0, FILTER, 2, SHOULD, 1));
        dueParts(x, fresh, BOOL, 0, MUST, 0, FILTER, 2, MUST, 1);
        fresh = anew(x, group(x, BOOL, 8, times(8, SHOULD, 0)));
        dueParts(x, fresh, BOOL, 0, times(8, MUST, 0));
        dueThere(x, "one alone, LEAST 1", group(x, BOOL, 1, SHOULD, 2), 2);
        dueThere(x, "one alone, LEAST 0", group(x, BOOL, 0, SHOULD, 2), 2);
        fresh = anew(x, group(x, BOOL, 0, SHOULD, 0, NOT, 2));
        dueParts(x, fresh, BOOL, 0, MUST, 0, NOT, 2);
        int seven = group(x, BOOL, 7, times(8, SHOULD, 0));
        dueThere(x, "LEAST 7 of eight", seven, seven);
        int none = group(x, BOOL, 0, MUST, 0, MUST, 1);
        dueThere(x, "LEAST 0 and no SHOULD", none, none);
        int free = group(x, BOOL, 0, MUST, 0, SHOULD, 1);
        dueThere(x, "LEAST 0 and one SHOULD", free, free);
    }

    private static void filtersLeftOut() {
        sentence("A FILTER is left out if a MUST is the same NODE, or a FILTER ahead of it");
        BooleanRuns x = threeLists();
        dueThere(x, "a MUST ahead", group(x, BOOL, 0, MUST, 0, FILTER, 0), 0);
        dueThere(x, "a MUST behind", group(x, BOOL, 0, FILTER, 0, MUST, 0), 0);
        dueThere(x, "seven of them", group(x, BOOL, 0, joined(times(7, FILTER, 0), row(MUST, 0))), 0);
        dueThere(x, "a SHOULD that became a MUST", group(x, BOOL, 1, FILTER, 0, SHOULD, 0), 0);
        int one = anew(x, group(x, BOOL, 0, times(8, FILTER, 0)));
        dueParts(x, one, BOOL, 0, FILTER, 0);
        int two = anew(x, group(x, BOOL, 0, FILTER, 0, FILTER, 1, FILTER, 0, FILTER, 1));
        dueParts(x, two, BOOL, 0, FILTER, 0, FILTER, 1);
        int free = group(x, BOOL, 0, FILTER, 0, SHOULD, 0);
        dueThere(x, "a SHOULD is no MUST", free, free);
        int musts = group(x, BOOL, 0, MUST, 0, MUST, 0);
        dueThere(x, "MUSTS stay", musts, musts);
        int shoulds = group(x, BOOL, 1, SHOULD, 0, SHOULD, 0);
        dueThere(x, "SHOULDS stay", shoulds, shoulds);
        dueThere(x, "a like LIST is the same NODE anew", group(x, BOOL, 0, MUST, 0, FILTER, x.node(LIST, 0, 0)), 0);
    }

    private static void notsLeftOut() {
        sentence("a NOT, if a NOT ahead of it is");
        BooleanRuns x = threeLists();
        int one = anew(x, group(x, BOOL, 0, joined(row(MUST, 0), times(7, NOT, 1))));
        dueParts(x, one, BOOL, 0, MUST, 0, NOT, 1);
        int two = anew(x, group(x, BOOL, 0, NOT, 1, NOT, 2, MUST, 0, NOT, 1, NOT, 2));
        dueParts(x, two, BOOL, 0, NOT, 1, NOT, 2, MUST, 0);
        int should = group(x, BOOL, 0, MUST, 0, SHOULD, 1, NOT, 1);
        dueThere(x, "a SHOULD is no NOT", should, should);
    }

    private static void notsThatMust() {
        sentence("a NOT that is the same NODE as a MUST or FILTER: NOTHING");
        BooleanRuns x = threeLists();
        int nothing = x.node(NOTHING, 0, 0);
        dueThere(x, "a MUST ahead", group(x, BOOL, 0, MUST, 0, NOT, 0), nothing);
        dueThere(x, "a MUST behind", group(x, BOOL, 0, NOT, 0, MUST, 0), nothing);
        dueThere(x, "a FILTER ahead", group(x, BOOL, 0, MUST, 1, FILTER, 0, NOT, 0), nothing);
        dueThere(x, "a FILTER behind", group(x, BOOL, 0, NOT, 0, MUST, 1, FILTER, 0), nothing);
        dueThere(x, "a SHOULD that became a MUST", group(x, BOOL, 1, NOT, 0, MUST, 1, SHOULD, 0), nothing);
        dueThere(x, "a FILTER that is left out", group(x, BOOL, 0, FILTER, 0, FILTER, 0, NOT, 0), nothing);
        int should = group(x, BOOL, 0, FILTER, 1, NOT, 0, SHOULD, 0);
        dueThere(x, "a SHOULD", should, should);
        int inner = group(x, BOOL, 0, FILTER, 1, NOT, 0);
        dueThere(x, "one that came by a BOOL", group(x, BOOL, 0, FILTER, inner, MUST, 0), nothing);
    }

    private static void oneAlone() {
        sentence("One PART alone, a MUST: that. Else the BOOL that is so.");
        BooleanRuns x = threeLists();
        dueThere(x, "a MUST", group(x, BOOL, 0, MUST, 1), 1);
        int filter = group(x, BOOL, 0, FILTER, 1);
        dueThere(x, "a FILTER", filter, filter);
        int two = group(x, BOOL, 0, MUST, 1, NOT, 0);
        dueThere(x, "a MUST and a NOT", two, two);
        int should = group(x, BOOL, 0, MUST, 1, SHOULD, 0);
        dueThere(x, "a MUST and a SHOULD", should, should);
        int free = group(x, BOOL, 0, MUST, 1, SHOULD, 0);
        dueThere(x, "a BOOL in a BOOL", group(x, BOOL, 0, MUST, free), should);
        int test = passing(x, 0);
        dueThere(x, "a TEST", group(x, BOOL, 0, MUST, test), test);
    }

    private static void newNodes() {
        sentence("(A new NODE has no SET, was never ASKED. A BOOL, BEST, KEPT or TEST that is so may be one that was there.)");
        BooleanRuns x = threeLists();
        int inner = x.node(CONSTANT, x.node(CONSTANT, 0, 1), 2);
        int test = passing(x, inner);
        int kept = x.node(KEPT, test, 0);
        due("keep", x.keep(kept), 3);
        int count = x.sum(0);
        due("rewrite", x.rewrite(kept), count + 2);
        due("the new TEST", x.told(count + 1, 0), TEST);
        due("was never ASKED", x.told(count + 1, 5), 0);
        due("the new KEPT has no SET", x.told(count + 2, 6), NONE);
        due("the old one has", x.told(kept, 6), 3);
        due("the old TEST was ASKED", x.told(test, 5), 3);
        due("keep the new one", x.keep(count + 2), 3);
        dueThere(x, "one that was there, with its SET", kept, count + 2);
        due("it has it still", x.told(count + 2, 6), 3);
        due("a TEST that was there keeps how often", x.told(x.rewrite(test), 5), 3);
    }

    private static void noneOfRefused() {
        sentence("The NEW of a NODE. BAD");
        BooleanRuns x = new BooleanRuns();
        due("the first NODE, not made", x.rewrite(0), BAD);
        x.node(NOTHING, 0, 0);
        for (int node : row(-1, 1, 79, 80, MIN, MAX)) due("node " + node, x.rewrite(node), BAD);
        due("the first", x.rewrite(0), 0);
    }

    /** CONSTANTS of CONSTANTS of three LISTS with a BEST over them, 4 NODES to be made, and then up to so many NODES. */
    private static int[] fourWanted(BooleanRuns x, int nodes) {
        int[] tops = new int[4];
        for (int list = 0; list < 3; list++) tops[list] = x.node(CONSTANT, x.node(CONSTANT, list, 1), 2);
        tops[3] = group(x, BEST, 0, SHOULD, tops[0], SHOULD, tops[1], SHOULD, tops[2]);
        while (x.sum(0) < nodes) x.node(RANGE, 7, 7);
        return tops;
    }

    private static void fullByOne() {
        sentence("FULL: there would be more than 80 NODES (none is made then).");
        for (int nodes = 75; nodes <= 80; nodes++) {
            BooleanRuns x = threeLists();
            int[] tops = fourWanted(x, nodes);
            due("of " + nodes, x.rewrite(tops[3]), nodes <= 76 ? nodes + 3 : FULL);
            due("how many", x.sum(0), nodes <= 76 ? nodes + 4 : nodes);
        }
    }

    private static void fullButNoneWanted() {
        sentence("FULL: there would be more than 80 NODES (not where none is made)");
        BooleanRuns x = threeLists();
        int[] tops = fourWanted(x, 79);
        int made = anew(x, tops[0]);
        due("all are there", made, 79);
        dueThere(x, "again", tops[0], made);
        due("another", x.rewrite(tops[1]), FULL);
        dueThere(x, "a LIST", 2, 2);
        due("all of them", x.rewrite(tops[3]), FULL);
        due("BAD comes ahead of FULL", x.rewrite(80), BAD);
        dueFound(x, tops[3], 1, 2, 2, 2, 3, 2, 4, 2);
    }

    private static void nodesAfterFull() {
        sentence("(none is made then) (and what is made next is as new)");
        BooleanRuns x = threeLists();
        int[] tops = fourWanted(x, 78);
        due("full", x.rewrite(tops[3]), FULL);
        due("the next", x.node(BEST, 4, 0), 78);
        dueParts(x, 78, BEST, 4);
        due("no SET", x.told(78, 6), NONE);
        due("cost", x.told(78, 4), 0);
        due("the next", x.node(BOOL, 0, 0), 79);
        due("its part", x.part(79, MUST, 0), 1);
        dueParts(x, 79, BOOL, 0, MUST, 0);
        dueFound(x, 79, 1, 10, 2, 20, 3, 30);
        dueFound(x, 78);
    }

    private static void fullByNothing() {
        sentence("FULL: there would be more than 80 NODES (the NOTHING that is so among them)");
        BooleanRuns x = threeLists();
        int empty = x.node(LIST, 9, 0);
        int not = group(x, BOOL, 0, MUST, 0, NOT, empty);
        while (x.sum(0) < 80) x.node(RANGE, 7, 7);
        due("the NOTHING of an empty LIST", x.rewrite(empty), FULL);
        due("though it is left out", x.rewrite(not), FULL);
        x.put(9, 1, 1);
        dueThere(x, "not empty now", empty, empty);
        dueThere(x, "nor is it left out", not, not);
    }

    private static void changesNothingElse() {
        sentence("The NEW of a NODE (the NODE itself stays as it was)");
        BooleanRuns x = threeLists();
        int inner = group(x, BOOL, 0, MUST, 0, NOT, 2);
        int outer = group(x, BOOL, 1, FILTER, inner, SHOULD, 1);
        x.run(0);
        int fresh = anew(x, outer);
        dueParts(x, outer, BOOL, 1, FILTER, inner, SHOULD, 1);
        dueParts(x, inner, BOOL, 0, MUST, 0, NOT, 2);
        dueParts(x, fresh, BOOL, 0, FILTER, 0, NOT, 2, MUST, 1);
        due("the FOUND stay", x.found(2), 3);
        dueFound(x, outer, 2, 200);
        dueFound(x, fresh, 2, 200);
    }

    public static void main(String[] args) {
        leastThatIsSo();
        notSo();
        partsFirst();
        onlyUnderIt();
        underTheSecond();
        chains();
        emptyLists();
        nothingMadeLater();
        constantsAnew();
        testsAnew();
        keptsAnew();
        bestsAnew();
        nothingInBools();
        boolsAsMust();
        boolsAsFilter();
        boolsAsShould();
        roomForMust();
        roomForShould();
        roomByTurns();
        roomWithNothings();
        leastAbove();
        leastAboveAfterRow();
        nothingNeeded();
        allShoulds();
        filtersLeftOut();
        notsLeftOut();
        notsThatMust();
        oneAlone();
        newNodes();
        noneOfRefused();
        fullByOne();
        fullButNoneWanted();
        nodesAfterFull();
        fullByNothing();
        changesNothingElse();
        finish("RewriteBoundaryTests");
    }
}
