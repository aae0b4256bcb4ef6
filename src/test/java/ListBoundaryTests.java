/** The boundary cases of LISTS, NODES and PARTS: section 1 of the document's terms, and promises 1 to 7. */
public final class ListBoundaryTests extends Checks {
    private static void callsOfOneObject() {
        sentence("An object is used for at most 512 calls after it has been made");
        BooleanRuns x = new BooleanRuns();
        int calls = 0;
        for (int list = 0; list < 4; list++) {
            for (int i = 0; i < 60; i++, calls++) due("put", x.put(list, 511 - i, i), i + 1);
        }
        for (int n = 0; n < 80; n++, calls++) due("node", x.node(BOOL, 0, 0), n);
        for (int n = 1; n < 80; n++, calls++) due("part", x.part(n, SHOULD, n - 1), 1);
        for (; calls < 511; calls++) due("a call that is refused", x.part(0, MUST, 0), BAD);
        due("the 512th", x.sum(1), 240);
    }

    private static void listNumbers() {
        sentence("LISTS 0 .. 15");
        BooleanRuns x = new BooleanRuns();
        for (int list = 0; list <= 15; list++) due("put into " + list, x.put(list, 7, 100 + list), 1);
        for (int list = 0; list <= 15; list++) due("node of " + list, x.node(LIST, list, 0), list);
        for (int list = 0; list <= 15; list++) due("take from " + list, x.take(list, 7), 100 + list);
        for (int list : row(-1, 16, MIN, MAX)) {
            due("put into " + list, x.put(list, 7, 1), BAD);
            due("take from " + list, x.take(list, 7), BAD);
            due("node of " + list, x.node(LIST, list, 0), BAD);
        }
    }

    private static void objectNumbers() {
        sentence("OBJECTS 0 .. 511");
        BooleanRuns x = new BooleanRuns();
        due("put 0", x.put(0, 0, 3), 1);
        due("put 511", x.put(0, 511, 4), 2);
        for (int object : row(-1, 512, MIN, MAX)) {
            due("put " + object, x.put(0, object, 1), BAD);
            due("take " + object, x.take(0, object), BAD);
        }
        int list = x.node(LIST, 0, 0);
        dueFound(x, list, 0, 3, 511, 4);
        due("take 0", x.take(0, 0), 3);
        due("take 511", x.take(0, 511), 4);
    }

    private static void objectsOnce() {
        sentence("each at most once");
        BooleanRuns x = new BooleanRuns();
        due("the first", x.put(0, 5, 1), 1);
        due("the same again", x.put(0, 5, 1), 1);
        due("with another weight", x.put(0, 5, 2), 1);
        dueFound(x, x.node(LIST, 0, 0), 5, 2);
        due("take", x.take(0, 5), 2);
        due("gone at once", x.take(0, 5), STATE);
        due("in all", x.sum(1), 0);
    }

    private static void weights() {
        sentence("with WEIGHTS 0 .. 1000000");
        BooleanRuns x = new BooleanRuns();
        due("0", x.put(0, 1, 0), 1);
        due("1000000", x.put(0, 2, 1000000), 2);
        for (int weight : row(-1, 1000001, MIN, MAX)) {
            due("a new object with " + weight, x.put(0, 3, weight), BAD);
            due("one that is there with " + weight, x.put(0, 2, weight), BAD);
        }
        dueFound(x, x.node(LIST, 0, 0), 1, 0, 2, 1000000);
        due("take 0", x.take(0, 1), 0);
        due("take 1000000", x.take(0, 2), 1000000);
    }

    private static void fullList() {
        sentence("60 at most");
        BooleanRuns x = new BooleanRuns();
        for (int i = 0; i < 60; i++) due("put", x.put(7, i, i), i + 1);
        due("the 61st", x.put(7, 60, 1), FULL);
        due("it is not there", x.take(7, 60), STATE);
        due("the first with another weight", x.put(7, 0, 9), 60);
        due("the last with another weight", x.put(7, 59, 8), 60);
        due("the lists beside it have room", x.put(6, 60, 1) + x.put(8, 60, 1), 2);
        due("one goes", x.take(7, 30), 30);
        due("the 60th again", x.put(7, 60, 1), 60);
        due("the 61st again", x.put(7, 30, 1), FULL);
        due("cost", x.told(x.node(LIST, 7, 0), 4), 60);
        due("run", x.run(0), 60);
        due("the first's weight", x.score(0), 9);
    }

    private static void fullListOfOthers() {
        sentence("60 at most (each LIST by itself)");
        BooleanRuns x = new BooleanRuns();
        for (int i = 0; i < 60; i++) x.put(15, i, 1000 + i);
        for (int i = 0; i < 60; i++) x.put(14, i, 2000 + i);
        for (int i = 0; i < 60; i++) x.put(0, i, 3000 + i);
        for (int i = 0; i < 60; i++) x.put(1, i, 4000 + i);
        due("in all", x.sum(1), 240);
        due("the last of 14", x.take(14, 59), 2059);
        due("the first of 15", x.take(15, 0), 1000);
        due("the last of 15", x.take(15, 59), 1059);
        due("the last of 0", x.take(0, 59), 3059);
        due("the first of 1", x.take(1, 0), 4000);
    }

    private static void emptyObject() {
        sentence("Nothing is in the LISTS; no NODES.");
        BooleanRuns x = new BooleanRuns();
        for (int list = 0; list <= 15; list++) due("take from " + list, x.take(list, 0), STATE);
        for (int what = 0; what <= 4; what++) due("sum(" + what + ")", x.sum(what), 0);
        due("told", x.told(0, 0), BAD);
        due("partOf", x.partOf(0, 0, 0), BAD);
        due("part", x.part(0, 0, 0), BAD);
        dueBounds(x, "none", 0, 0, false, false);
        due("look", x.look(0, 0), BAD);
        due("scored", x.scored(), 0);
        due("run", x.run(0), BAD);
        due("found", x.found(0), NONE);
        due("score", x.score(0), 0);
        due("keep", x.keep(0), BAD);
        due("open", x.open(0), BAD);
        due("next", x.next(0, 0), BAD);
        due("close", x.close(0), BAD);
        due("rewrite", x.rewrite(0), BAD);
    }

    private static void objectsApart() {
        sentence("Nothing is in the LISTS; no NODES. (of another object's either)");
        BooleanRuns x = threeLists();
        x.open(0);
        x.run(0);
        x.look(0, 1);
        BooleanRuns y = new BooleanRuns();
        due("lists", y.sum(1), 0);
        due("nodes", y.sum(0), 0);
        due("iterators", y.sum(3), 0);
        due("found", y.found(0), NONE);
        due("scored", y.scored(), 0);
        due("the first is as it was", x.sum(1), 7);
    }

    private static void putAnswers() {
        sentence("An object of a LIST has a WEIGHT (which it may have had another of): how many objects it has.");
        BooleanRuns x = new BooleanRuns();
        due("the first", x.put(0, 9, 5), 1);
        due("the second", x.put(0, 8, 6), 2);
        due("another weight", x.put(0, 9, 7), 2);
        due("another list", x.put(1, 9, 8), 1);
        dueFound(x, x.node(LIST, 0, 0), 8, 6, 9, 7);
    }

    private static void takeAnswers() {
        sentence("An object goes out of a LIST: its WEIGHT.");
        BooleanRuns x = new BooleanRuns();
        for (int o = 1; o <= 4; o++) x.put(0, o, 10 * o);
        x.put(1, 1, 99);
        due("the first", x.take(0, 1), 10);
        dueFound(x, x.node(LIST, 0, 0), 2, 20, 3, 30, 4, 40);
        due("one between", x.take(0, 3), 30);
        dueFound(x, 0, 2, 20, 4, 40);
        due("the last", x.take(0, 4), 40);
        dueFound(x, 0, 2, 20);
        due("the only one", x.take(0, 2), 20);
        dueFound(x, 0);
        due("the other list has it still", x.take(1, 1), 99);
    }

    private static void takeOfNone() {
        sentence("STATE: it has it not.");
        BooleanRuns x = new BooleanRuns();
        due("of an empty list", x.take(0, 0), STATE);
        x.put(0, 0, 1);
        due("the object above", x.take(0, 1), STATE);
        due("of the list above", x.take(1, 0), STATE);
        due("it is there", x.take(0, 0), 1);
        due("it is there no more", x.take(0, 0), STATE);
        due("object 511", x.take(15, 511), STATE);
    }

    private static void nodeNumbers() {
        sentence("NODES have numbers from 0 on, as they are made, 80 at most.");
        BooleanRuns x = new BooleanRuns();
        for (int n = 0; n < 80; n++) {
            due("one that is refused has no number", x.node(8, 0, 0), BAD);
            due("node", x.node(n % 2 == 0 ? NOTHING : BOOL, 0, 0), n);
        }
        for (int kind : row(LIST, RANGE, BOOL, BEST, CONSTANT, KEPT, NOTHING)) due("the 81st", x.node(kind, 0, 0), FULL);
        due("the 81st, a TEST", x.node(TEST, 0, 1000), FULL);
        due("how many", x.sum(0), 80);
        due("the last", x.told(79, 0), BOOL);
        due("none behind it", x.told(80, 0), BAD);
        due("the last has parts", x.part(79, SHOULD, 78), 1);
    }

    private static void kinds() {
        sentence("kind 0 .. 7");
        BooleanRuns x = new BooleanRuns();
        x.node(NOTHING, 0, 0);
        for (int kind = 0; kind <= 7; kind++) {
            due("kind " + kind, x.node(kind, 0, kind == TEST ? 1000 : 0), kind + 1);
            due("told", x.told(kind + 1, 0), kind);
        }
        for (int kind : row(-1, 8, MIN, MAX)) due("kind " + kind, x.node(kind, 0, 1000), BAD);
    }

    private static void rangeNumbers() {
        sentence("1 from a to b (from not above to)");
        BooleanRuns x = new BooleanRuns();
        due("0 .. 0", x.node(RANGE, 0, 0), 0);
        due("511 .. 511", x.node(RANGE, 511, 511), 1);
        due("0 .. 511", x.node(RANGE, 0, 511), 2);
        due("1 .. 0", x.node(RANGE, 1, 0), BAD);
        due("511 .. 510", x.node(RANGE, 511, 510), BAD);
        for (int wrong : row(-1, 512, MIN, MAX)) {
            due("from " + wrong, x.node(RANGE, wrong, 511), BAD);
            due("to " + wrong, x.node(RANGE, 0, wrong), BAD);
            due("both " + wrong, x.node(RANGE, wrong, wrong), BAD);
        }
        due("from", x.told(2, 1), 0);
        due("to", x.told(2, 2), 511);
    }

    private static void leastNumbers() {
        sentence("2 by LEAST a (0 .. 8)");
        BooleanRuns x = new BooleanRuns();
        for (int least = 0; least <= 8; least++) {
            due("LEAST " + least, x.node(BOOL, least, 0), least);
            due("told", x.told(least, 1), least);
        }
        for (int least : row(-1, 9, MIN, MAX)) due("LEAST " + least, x.node(BOOL, least, 0), BAD);
    }

    private static void shareNumbers() {
        sentence("3 by SHARE a (0 .. 100)");
        BooleanRuns x = new BooleanRuns();
        due("SHARE 0", x.node(BEST, 0, 0), 0);
        due("SHARE 100", x.node(BEST, 100, 0), 1);
        due("told", x.told(1, 1), 100);
        for (int share : row(-1, 101, MIN, MAX)) due("SHARE " + share, x.node(BEST, share, 0), BAD);
    }

    private static void constantNumbers() {
        sentence("4 with number b (0 .. 1000000) of PART a");
        BooleanRuns x = new BooleanRuns();
        x.node(RANGE, 3, 3);
        due("0", x.node(CONSTANT, 0, 0), 1);
        due("1000000", x.node(CONSTANT, 0, 1000000), 2);
        for (int number : row(-1, 1000001, MIN, MAX)) due("number " + number, x.node(CONSTANT, 0, number), BAD);
        dueFound(x, 1, 3, 0);
        dueFound(x, 2, 3, 1000000);
        due("of the latest NODE", x.node(CONSTANT, 2, 5), 3);
        for (int part : row(-1, 4, 5, MIN, MAX)) due("part " + part, x.node(CONSTANT, part, 5), BAD);
    }

    private static void testNumbers() {
        sentence("0 .. 999 each, m above 0");
        BooleanRuns x = new BooleanRuns();
        x.node(RANGE, 0, 511);
        due("0, 1, 0", x.node(TEST, 0, test(0, 1, 0)), 1);
        due("999, 999, 999", x.node(TEST, 0, 999999999), 2);
        due("0, 1, 999", x.node(TEST, 0, test(0, 1, 999)), 3);
        due("999, 1, 0", x.node(TEST, 0, test(999, 1, 0)), 4);
        due("told as b", x.told(2, 2), 999999999);
        for (int b : row(0, 999, test(1, 0, 0), test(999, 0, 999))) due("m is 0: " + b, x.node(TEST, 0, b), BAD);
        for (int b : row(1000000000, 1000001000, MAX)) due("a is above 999: " + b, x.node(TEST, 0, b), BAD);
        for (int b : row(-1, -1000, -1001, -1000000, -999999999, MIN)) due("below 0: " + b, x.node(TEST, 0, b), BAD);
        due("of the latest NODE", x.node(TEST, 4, 1000), 5);
        for (int part : row(-1, 6, 7, MIN, MAX)) due("part " + part, x.node(TEST, part, 1000), BAD);
    }

    private static void keptNumbers() {
        sentence("6 of PART a");
        BooleanRuns x = new BooleanRuns();
        due("of none", x.node(KEPT, 0, 0), BAD);
        x.node(NOTHING, 0, 0);
        due("of the first", x.node(KEPT, 0, 0), 1);
        due("of the latest", x.node(KEPT, 1, 0), 2);
        for (int part : row(-1, 3, 4, MIN, MAX)) due("part " + part, x.node(KEPT, part, 0), BAD);
    }

    private static void numbersThatDoNotCount() {
        sentence("(An a or b of which a kind tells nothing does not count, and is 0 then.)");
        int[] twoNumbers = {-1, 5, 1000001, MIN, MAX};
        for (int b : twoNumbers) {
            BooleanRuns x = new BooleanRuns();
            due("LIST", x.node(LIST, 3, b), 0);
            due("BOOL", x.node(BOOL, 3, b), 1);
            due("BEST", x.node(BEST, 3, b), 2);
            due("KEPT", x.node(KEPT, 2, b), 3);
            due("NOTHING", x.node(NOTHING, b, b), 4);
            for (int node = 0; node <= 4; node++) due("second number of " + node, x.told(node, 2), 0);
            due("first number of NOTHING", x.told(4, 1), 0);
        }
    }

    private static void likeInAllThatCounts() {
        sentence("(An a or b of which a kind tells nothing does not count, and is 0 then.) (so such are alike)");
        BooleanRuns x = new BooleanRuns();
        x.put(3, 1, 1);
        x.node(LIST, 3, 7);
        x.node(LIST, 3, 8);
        x.node(NOTHING, 5, 6);
        x.node(NOTHING, 0, 1);
        due("LIST", x.rewrite(1), 0);
        due("NOTHING", x.rewrite(3), 2);
    }

    private static void fullParts() {
        sentence("2 and 3 have up to 8 PARTS");
        BooleanRuns x = new BooleanRuns();
        x.node(RANGE, 0, 0);
        for (int kind = BOOL; kind <= BEST; kind++) {
            int node = x.node(kind, 0, 0);
            int next = x.node(kind, 0, 0);
            due("none", x.told(node, 3), 0);
            for (int i = 0; i < 8; i++) due("part", x.part(node, SHOULD, 0), i + 1);
            due("the ninth", x.part(node, SHOULD, 0), FULL);
            due("how many", x.told(node, 3), 8);
            due("no ninth", x.partOf(node, 8, 1), BAD);
            due("the next has none", x.told(next, 3), 0);
        }
    }

    private static void roles() {
        sentence("(ROLE 3 in a BEST)");
        BooleanRuns x = new BooleanRuns();
        x.node(RANGE, 0, 0);
        x.node(BOOL, 0, 0);
        x.node(BEST, 0, 0);
        for (int role = 0; role <= 3; role++) due("of a BOOL: " + role, x.part(1, role, 0), role + 1);
        for (int role : row(0, 1, 2, 4, -1, MIN, MAX)) due("of a BEST: " + role, x.part(2, role, 0), BAD);
        due("of a BEST: 3", x.part(2, 3, 0), 1);
        for (int role : row(4, -1, MIN, MAX)) due("of a BOOL: " + role, x.part(1, role, 0), BAD);
        due("told", x.partOf(2, 0, 0), 3);
    }

    private static void oneOfOne() {
        sentence("4 to 6 one (ROLE 0)");
        BooleanRuns x = new BooleanRuns();
        x.node(NOTHING, 0, 0);
        x.node(RANGE, 0, 0);
        for (int kind = CONSTANT; kind <= KEPT; kind++) {
            int node = x.node(kind, 1, 1000);
            due("how many", x.told(node, 3), 1);
            due("role", x.partOf(node, 0, 0), 0);
            due("node", x.partOf(node, 0, 1), 1);
            due("told by its first number", x.told(node, 1), 1);
            due("no second", x.partOf(node, 1, 1), BAD);
            due("none ahead of the first", x.partOf(node, -1, 1), BAD);
        }
    }

    private static void partsOfOtherKinds() {
        sentence("BAD: also another kind, ROLE");
        BooleanRuns x = new BooleanRuns();
        x.node(NOTHING, 0, 0);
        for (int kind = 0; kind <= 7; kind++) {
            int node = x.node(kind, 0, kind == TEST ? 1000 : 0);
            int many = x.told(node, 3);
            for (int role = 0; role <= 3; role++) {
                boolean good = kind == BOOL || kind == BEST && role == SHOULD;
                due("kind " + kind + ", role " + role, x.part(node, role, 0) > 0, good);
                many += good ? 1 : 0;
            }
            due("how many", x.told(node, 3), many);
        }
        for (int node : row(-1, 9, MIN, MAX)) due("node " + node, x.part(node, SHOULD, 0), BAD);
    }

    private static void partsAhead() {
        sentence("a PART is a NODE that was made ahead of it");
        BooleanRuns x = new BooleanRuns();
        for (int n = 0; n < 4; n++) x.node(n % 2 == 0 ? BOOL : BEST, 0, 0);
        for (int node = 0; node < 4; node++) {
            for (int part = 0; part < 4; part++) {
                due("part(" + node + ", 3, " + part + ")", x.part(node, SHOULD, part), part < node ? part + 1 : BAD);
            }
            for (int part : row(-1, 4, MIN, MAX)) due("part " + part, x.part(node, SHOULD, part), BAD);
        }
        due("the first of all can have none", x.told(0, 3), 0);
    }

    private static void sharedParts() {
        sentence("one may be PART of many, and of one more than once");
        BooleanRuns x = new BooleanRuns();
        x.put(0, 1, 3);
        x.node(LIST, 0, 0);
        int bool = group(x, BOOL, 0, times(8, MUST, 0));
        int best = group(x, BEST, 100, times(8, SHOULD, 0));
        int constant = x.node(CONSTANT, 0, 5);
        int all = group(x, BOOL, 4, SHOULD, 0, SHOULD, bool, SHOULD, best, SHOULD, constant);
        dueFound(x, bool, 1, 24);
        dueFound(x, best, 1, 24);
        dueFound(x, all, 1, 56);
        dueParts(x, bool, BOOL, 0, times(8, MUST, 0));
    }

    private static void lastPart() {
        sentence("One more PART, the last one, of a BOOL, a BEST: how many it has.");
        BooleanRuns x = new BooleanRuns();
        for (int n = 0; n < 3; n++) x.node(NOTHING, 0, 0);
        for (int kind = BOOL; kind <= BEST; kind++) {
            int node = x.node(kind, 0, 0);
            due("the first", x.part(node, SHOULD, 2), 1);
            due("the second", x.part(node, SHOULD, 0), 2);
            due("the third", x.part(node, SHOULD, 1), 3);
            dueParts(x, node, kind, 0, SHOULD, 2, SHOULD, 0, SHOULD, 1);
        }
    }

    private static void toldWhats() {
        sentence("Of a NODE: 0 its kind, 1 its first number, 2 the second, .. 6 how many objects its SET has. BAD.");
        BooleanRuns x = new BooleanRuns();
        x.node(RANGE, 2, 9);
        for (int what : row(-1, 7, MIN, MAX)) due("what " + what, x.told(0, what), BAD);
        for (int node : row(-1, 1, 80, MIN, MAX)) {
            for (int what = 0; what <= 6; what++) due("node " + node, x.told(node, what), BAD);
        }
        int[] all = {RANGE, 2, 9, 0, 8, 0, NONE};
        for (int what = 0; what <= 6; what++) due("told " + what, x.told(0, what), all[what]);
    }

    private static void setsTold() {
        sentence("6 how many objects its SET has (NONE without one)");
        BooleanRuns x = new BooleanRuns();
        x.node(NOTHING, 0, 0);
        x.node(RANGE, 0, 511);
        for (int kind = 0; kind <= 7; kind++) due("kind " + kind, x.told(x.node(kind, 0, kind == TEST ? 1000 : 0), 6), NONE);
        int none = x.node(KEPT, 0, 0);
        int all = x.node(KEPT, 1, 0);
        x.keep(none);
        x.keep(all);
        due("an empty SET", x.told(none, 6), 0);
        due("a SET of all", x.told(all, 6), 512);
    }

    private static void askedTold() {
        sentence("5 how often it was ASKED");
        BooleanRuns x = new BooleanRuns();
        x.node(RANGE, 0, 511);
        int test = passing(x, 0);
        due("never", x.told(test, 5), 0);
        x.look(test, 0);
        due("once", x.told(test, 5), 1);
        x.run(test);
        due("by all objects too", x.told(test, 5), 513);
        due("what is no TEST is not asked", x.told(0, 5), 0);
    }

    private static void placesOfParts() {
        sentence("Of a PART by its place: 0 its ROLE, 1 its NODE. BAD.");
        BooleanRuns x = new BooleanRuns();
        x.node(NOTHING, 0, 0);
        x.node(NOTHING, 0, 0);
        int empty = x.node(BOOL, 0, 0);
        int full = group(x, BOOL, 0, joined(times(7, NOT, 0), row(FILTER, 1)));
        int after = group(x, BOOL, 0, SHOULD, 1);
        due("of one that has none", x.partOf(empty, 0, 0), BAD);
        due("the first", x.partOf(full, 0, 0), NOT);
        due("its node", x.partOf(full, 0, 1), 0);
        due("the eighth", x.partOf(full, 7, 0), FILTER);
        due("its node", x.partOf(full, 7, 1), 1);
        due("of the next", x.partOf(after, 0, 0), SHOULD);
        due("its node", x.partOf(after, 0, 1), 1);
        for (int i : row(-1, 8, MIN, MAX)) due("place " + i, x.partOf(full, i, 0), BAD);
        for (int what : row(-1, 2, MIN, MAX)) due("what " + what, x.partOf(full, 0, what), BAD);
        for (int node : row(-1, 5, MIN, MAX)) due("node " + node, x.partOf(node, 0, 0), BAD);
        for (int what = 0; what <= 1; what++) due("of a NOTHING", x.partOf(0, 0, what), BAD);
    }

    public static void main(String[] args) {
        callsOfOneObject();
        listNumbers();
        objectNumbers();
        objectsOnce();
        weights();
        fullList();
        fullListOfOthers();
        emptyObject();
        objectsApart();
        putAnswers();
        takeAnswers();
        takeOfNone();
        nodeNumbers();
        kinds();
        rangeNumbers();
        leastNumbers();
        shareNumbers();
        constantNumbers();
        testNumbers();
        keptNumbers();
        numbersThatDoNotCount();
        likeInAllThatCounts();
        fullParts();
        roles();
        oneOfOne();
        partsOfOtherKinds();
        partsAhead();
        sharedParts();
        lastPart();
        toldWhats();
        setsTold();
        askedTold();
        placesOfParts();
        finish("ListBoundaryTests");
    }
}
