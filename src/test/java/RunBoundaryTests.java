/** The boundary cases of RUNS, SETS, ITERATORS and sums: promises 12 to 18 and 20. */
public final class RunBoundaryTests extends Checks {
    private static void runsFromZero() {
        sentence("A RUN by a NODE: a LOOK at each object from 0 on; those that match, in order, are the FOUND then.");
        BooleanRuns x = new BooleanRuns();
        x.put(0, 511, 1);
        x.put(0, 0, 2);
        x.put(0, 64, 3);
        x.put(0, 63, 4);
        x.node(LIST, 0, 0);
        dueFound(x, 0, 0, 2, 63, 4, 64, 3, 511, 1);
        int all = x.node(RANGE, 0, 511);
        int test = failing(x, all);
        due("none", x.run(test), 0);
        due("a LOOK at each", x.told(test, 5), 512);
        due("all", x.run(all), 512);
        for (int k : row(0, 1, 255, 510, 511)) due("found(" + k + ")", x.found(k), k);
        due("none behind the last", x.found(512), NONE);
    }

    private static void runsByNone() {
        sentence("A RUN: how many are FOUND. BAD.");
        BooleanRuns x = new BooleanRuns();
        due("the first NODE, not made", x.run(0), BAD);
        x.node(NOTHING, 0, 0);
        due("none", x.run(0), 0);
        for (int node : row(-1, 1, 79, 80, MIN, MAX)) due("node " + node, x.run(node), BAD);
        due("one", x.run(x.node(RANGE, 9, 9)), 1);
    }

    private static void foundPlaces() {
        sentence("The k-th that the latest run() FOUND; NONE.");
        BooleanRuns x = threeLists();
        due("ahead of any run()", x.found(0), NONE);
        x.run(0);
        due("the first", x.found(0), 1);
        due("the last", x.found(2), 3);
        for (int k : row(-1, 3, 511, 512, MIN, MAX)) due("found(" + k + ")", x.found(k), NONE);
        x.run(2);
        due("a shorter one", x.found(0), 3);
        due("leaves none behind it", x.found(1), NONE);
        x.run(x.node(NOTHING, 0, 0));
        due("an empty one", x.found(0), NONE);
    }

    private static void foundStays() {
        sentence("The k-th that the latest run() FOUND (whatever comes then)");
        BooleanRuns x = threeLists();
        x.run(0);
        x.take(0, 1);
        x.put(0, 3, 99);
        x.run(9);
        x.look(1, 4);
        x.next(x.open(1), 0);
        x.keep(x.node(KEPT, 1, 0));
        x.rewrite(0);
        for (int k = 0; k < 3; k++) {
            due("found(" + k + ")", x.found(k), k + 1);
            due("score(" + k + ")", x.score(k), 10 * (k + 1));
        }
    }

    private static void scoresOfFound() {
        sentence("Its SCORE; 0 without one.");
        BooleanRuns x = threeLists();
        due("ahead of any run()", x.score(0), 0);
        x.run(1);
        due("the first", x.score(0), 200);
        due("the last", x.score(2), 400);
        for (int k : row(-1, 3, 511, 512, MIN, MAX)) due("score(" + k + ")", x.score(k), 0);
        x.run(2);
        due("a shorter one", x.score(0), 5);
        due("leaves none behind it", x.score(1), 0);
        int all = x.node(CONSTANT, x.node(RANGE, 0, 511), 1000000);
        x.run(all);
        due("the 512th", x.score(511), 1000000);
        due("the 513th", x.score(512), 0);
    }

    private static void keptOnce() {
        sentence("KEEPING of a KEPT: how many its SET has. BAD; STATE: it has one.");
        BooleanRuns x = new BooleanRuns();
        due("the first NODE, not made", x.keep(0), BAD);
        x.node(RANGE, 0, 511);
        for (int kind : row(LIST, RANGE, BOOL, BEST, CONSTANT, TEST, NOTHING)) {
            due("kind " + kind, x.keep(x.node(kind, 0, kind == TEST ? 1000 : 0)), BAD);
        }
        int test = failing(x, 0);
        int kept = x.node(KEPT, test, 0);
        for (int node : row(-1, kept + 1, 80, MIN, MAX)) due("node " + node, x.keep(node), BAD);
        due("keep", x.keep(kept), 0);
        due("an empty SET is one", x.keep(kept), STATE);
        due("and once more", x.keep(kept), STATE);
        due("no LOOK was made", x.told(test, 5), 512);
        due("all", x.keep(x.node(KEPT, 0, 0)), 512);
    }

    private static void keptAgain() {
        sentence("STATE: it has one (not when it went)");
        BooleanRuns x = threeLists();
        int kept = x.node(KEPT, 0, 0);
        int like = x.node(KEPT, 0, 0);
        due("keep", x.keep(kept), 3);
        due("a like one has none", x.keep(like), 3);
        x.take(0, 1);
        due("it went", x.keep(kept), 2);
        due("it is there", x.keep(kept), STATE);
        due("the like one went too", x.keep(like), 2);
    }

    private static void opened() {
        sentence("An ITERATOR by a NODE, ahead of all objects: the least of 0 .. 7 that is not open. BAD; FULL.");
        BooleanRuns x = new BooleanRuns();
        due("the first NODE, not made", x.open(0), BAD);
        x.node(RANGE, 0, 511);
        for (int i = 0; i <= 7; i++) due("open", x.open(0), i);
        due("the ninth", x.open(0), FULL);
        due("close 7", x.close(7), 0);
        due("7 again", x.open(0), 7);
        due("close 5", x.close(5), 0);
        due("close 0", x.close(0), 0);
        due("close 2", x.close(2), 0);
        due("the least", x.open(0), 0);
        due("the next", x.open(0), 2);
        due("the last", x.open(0), 5);
        due("full again", x.open(0), FULL);
        for (int node : row(-1, 1, 80, MIN, MAX)) due("node " + node, x.open(node), BAD);
    }

    private static void aheadOfAll() {
        sentence("An ITERATOR by a NODE, ahead of all objects");
        BooleanRuns x = new BooleanRuns();
        x.node(RANGE, 0, 511);
        x.open(0);
        due("object 0", x.next(0, 0), 0);
        due("far on", x.next(0, 511), 511);
        due("none", x.next(0, 0), NONE);
        due("close", x.close(0), 2);
        due("opened anew", x.open(0), 0);
        due("object 0 again", x.next(0, 0), 0);
        due("none was found ahead of it", x.close(0), 1);
    }

    private static void goesOn() {
        sentence("LOOKS from the object to on, but behind the one where it stands, till one matches: that one");
        BooleanRuns x = new BooleanRuns();
        for (int o : row(0, 10, 20, 511)) x.put(0, o, 1);
        int list = x.node(LIST, 0, 0);
        int test = passing(x, list);
        x.open(test);
        due("from 1 on", x.next(0, 1), 10);
        due("one LOOK that asked", x.told(test, 5), 1);
        due("behind where it stands", x.next(0, 10), 20);
        due("not back", x.next(0, 0), 511);
        due("each was asked once", x.told(test, 5), 3);
        due("none behind 511", x.next(0, 511), NONE);
        due("no LOOK was made", x.told(test, 5), 3);
        due("found", x.close(0), 3);
        x.open(test);
        due("from 20 on", x.next(0, 20), 20);
        due("from 21 on", x.next(0, 21), 511);
        x.open(test);
        due("from 511 on", x.next(1, 511), 511);
        due("found", x.close(1), 1);
    }

    private static void goesToTheEnd() {
        sentence("LOOKS from the object to on .. NONE: there is none (behind 511)");
        BooleanRuns x = new BooleanRuns();
        x.node(RANGE, 5, 5);
        x.node(RANGE, 0, 0);
        due("the NODE behind has object 0", x.look(1, 0), 1);
        x.open(0);
        due("the only one", x.next(0, 0), 5);
        due("none", x.next(0, 0), NONE);
        while (x.sum(0) < 80) x.node(RANGE, 500, 511);
        x.open(79);
        due("the last NODE", x.next(1, 511), 511);
        due("none", x.next(1, 511), NONE);
        x.open(79);
        for (int i = 0; i < 12; i++) due("one after another", x.next(2, 0), 500 + i);
        due("none", x.next(2, 0), NONE);
        due("run by the last NODE", x.run(79), 12);
    }

    private static void goesOnByTests() {
        sentence("till one matches: that one; NONE: there is none");
        BooleanRuns x = new BooleanRuns();
        int all = x.node(RANGE, 0, 511);
        int last = x.node(TEST, all, test(1, 512 - 1, 1));
        x.open(last);
        due("0 modulo 511", x.next(0, 0), 0);
        due("asked once", x.told(last, 5), 1);
        due("511 modulo 511", x.next(0, 0), 511);
        due("asked till there", x.told(last, 5), 512);
        int never = failing(x, all);
        x.open(never);
        due("none", x.next(1, 500), NONE);
        due("LOOKS from 500 on", x.told(never, 5), 12);
    }

    private static void overForGood() {
        sentence("(it is over then, and answers NONE always)");
        BooleanRuns x = threeLists();
        int test = passing(x, 0);
        x.open(test);
        due("none from 4 on", x.next(0, 4), NONE);
        due("though some are ahead of that", x.next(0, 0), NONE);
        x.put(0, 500, 1);
        due("though one came", x.next(0, 0), NONE);
        due("and at the end", x.next(0, 511), NONE);
        due("no LOOK was made", x.told(test, 5), 0);
        due("it is open still", x.sum(3), 1);
        due("found", x.close(0), 0);
        x.open(test);
        due("one opened anew is not over", x.next(0, 0), 1);
    }

    private static void nextOfNone() {
        sentence("BAD: not open, to is not 0 .. 511.");
        BooleanRuns x = new BooleanRuns();
        x.node(RANGE, 0, 511);
        for (int iterator : row(0, 7, 8, -1, MIN, MAX)) due("never opened: " + iterator, x.next(iterator, 0), BAD);
        x.open(0);
        for (int to : row(-1, 512, MIN, MAX)) due("to " + to, x.next(0, to), BAD);
        due("it stands where it was", x.next(0, 0), 0);
        due("511", x.next(0, 511), 511);
        due("over", x.next(0, 0), NONE);
        for (int to : row(-1, 512, MIN, MAX)) due("over, to " + to, x.next(0, to), BAD);
        due("found", x.close(0), 2);
        due("closed", x.next(0, 0), BAD);
        due("the one beside it", x.next(1, 0), BAD);
    }

    private static void closed() {
        sentence("It is open no more: how many it found. BAD.");
        BooleanRuns x = threeLists();
        for (int iterator : row(0, 7, 8, -1, MIN, MAX)) due("never opened: " + iterator, x.close(iterator), BAD);
        x.open(0);
        x.open(1);
        for (int i = 0; i < 5; i++) x.next(0, 0);
        x.next(1, 4);
        due("three and two times NONE", x.close(0), 3);
        due("again", x.close(0), BAD);
        due("the other", x.close(1), 1);
        due("none is open", x.sum(3), 0);
        x.open(0);
        due("anew", x.close(0), 0);
        x.open(x.node(RANGE, 0, 511));
        for (int i = 0; i < 400; i++) x.next(0, i);
        due("four hundred", x.close(0), 400);
    }

    private static void iteratorsApart() {
        sentence("An ITERATOR goes on (each by itself)");
        BooleanRuns x = threeLists();
        for (int i = 0; i < 8; i++) x.open(i % 2);
        due("0", x.next(0, 0), 1);
        due("7", x.next(7, 0), 2);
        due("0", x.next(0, 0), 2);
        due("6", x.next(6, 3), 3);
        due("6 is over", x.next(6, 3), NONE);
        due("0", x.next(0, 0), 3);
        due("7", x.next(7, 0), 3);
        due("2", x.next(2, 0), 1);
        due("close 0", x.close(0), 3);
        due("close 7", x.close(7), 2);
        due("close 6", x.close(6), 1);
        due("close 1", x.close(1), 0);
    }

    private static void iteratorsSeeChanges() {
        sentence("An ITERATOR goes on: LOOKS (as all is then)");
        BooleanRuns x = threeLists();
        int bool = group(x, BOOL, 0, SHOULD, 0);
        x.open(bool);
        due("the first", x.next(0, 0), 1);
        x.take(0, 2);
        due("one that went", x.next(0, 0), 3);
        x.put(0, 2, 1);
        x.part(bool, SHOULD, 1);
        due("one that came, by another PART", x.next(0, 0), 4);
        due("found", x.close(0), 3);
    }

    private static void sums() {
        sentence("0 how many NODES, 1 objects in all LISTS, 2 how often TESTS were ASKED, 3 ITERATORS that are open, 4 SETS. BAD.");
        BooleanRuns x = new BooleanRuns();
        for (int what : row(-1, 5, MIN, MAX)) due("what " + what, x.sum(what), BAD);
        for (int what = 0; what <= 4; what++) due("of nothing: " + what, x.sum(what), 0);
        for (int list = 0; list < 16; list++) x.put(list, 7, list);
        due("one object in each LIST", x.sum(1), 16);
        x.node(RANGE, 0, 511);
        int yes = passing(x, 0);
        int no = failing(x, 0);
        x.run(yes);
        x.run(no);
        due("two TESTS", x.sum(2), 1024);
        for (int i = 0; i < 9; i++) x.open(0);
        due("iterators", x.sum(3), 8);
        for (int n = 3; n < 80; n++) x.keep(x.node(KEPT, 0, 0));
        due("nodes", x.sum(0), 80);
        due("sets", x.sum(4), 77);
        x.close(7);
        x.close(7);
        due("one closed", x.sum(3), 7);
        x.take(15, 7);
        due("one taken", x.sum(1), 15);
        due("no SET went", x.sum(4), 77);
    }

    private static void sumOfSetsThatGo() {
        sentence("4 SETS (those that are there)");
        BooleanRuns x = threeLists();
        int over0 = x.node(KEPT, 0, 0);
        int over1 = x.node(KEPT, 1, 0);
        x.keep(over0);
        x.keep(over1);
        due("both", x.sum(4), 2);
        x.put(0, 9, 9);
        due("one", x.sum(4), 1);
        x.put(1, 9, 9);
        due("none", x.sum(4), 0);
        x.keep(over1);
        due("one again", x.sum(4), 1);
    }

    public static void main(String[] args) {
        runsFromZero();
        runsByNone();
        foundPlaces();
        foundStays();
        scoresOfFound();
        keptOnce();
        keptAgain();
        opened();
        aheadOfAll();
        goesOn();
        goesToTheEnd();
        goesOnByTests();
        overForGood();
        nextOfNone();
        closed();
        iteratorsApart();
        iteratorsSeeChanges();
        sums();
        sumOfSetsThatGo();
        finish("RunBoundaryTests");
    }
}
