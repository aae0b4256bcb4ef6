import java.util.Arrays;

/** Finds the objects that fit a query; ../shared/DOC.md is its document, and the words in capitals are told there. */
public final class BooleanRuns {
    public static final int NONE = -1, BAD = -2, FULL = -3, STATE = -4;

    private static final int LISTS = 16;
    private static final int LIST_ROOM = 60;
    private static final int OBJECTS = 512;
    private static final int WORDS = OBJECTS / 64;
    private static final int NODES = 80;
    private static final int PARTS = 8;
    private static final int ITERATORS = 8;
    private static final int MOST_NUMBER = 1000000;
    private static final int MOST_LEAST = 8;
    private static final int MOST_SHARE = 100;
    private static final int MOST_TEST = 999999999;

    private static final int LIST = 0, RANGE = 1, BOOL = 2, BEST = 3, CONSTANT = 4, TEST = 5, KEPT = 6, NOTHING = 7;
    private static final int MUST = 0, FILTER = 1, NOT = 2, SHOULD = 3;

    private final Lists lists;
    private final Nodes nodes;
    private final Sets sets;
    private final Bounds bounds;
    private final Looker looker;
    private final Finds finds;
    private final Iterators iterators;
    private final Rewriter rewriter;
    private long latestScore;

    public BooleanRuns() {
        lists = new Lists();
        nodes = new Nodes();
        sets = new Sets(nodes);
        bounds = new Bounds(lists, nodes, sets);
        looker = new Looker(lists, nodes, sets, bounds);
        finds = new Finds();
        iterators = new Iterators();
        rewriter = new Rewriter(lists, nodes);
    }

    public int put(int list, int object, int weight) {
        if (!isList(list) || !isObject(object) || !isWithin(weight, MOST_NUMBER)) {
            return BAD;
        }
        if (!lists.store(list, object, weight)) {
            return FULL;
        }
        listHasChanged(list);
        return lists.size(list);
    }

    public int take(int list, int object) {
        if (!isList(list) || !isObject(object)) {
            return BAD;
        }
        if (lists.placeOf(list, object) == NONE) {
            return STATE;
        }
        int weight = lists.weightOf(list, object);
        lists.remove(list, object);
        listHasChanged(list);
        return weight;
    }

    public int node(int kind, int a, int b) {
        if (!areNumbersOf(kind, a, b)) {
            return BAD;
        }
        return nodes.make(kind, kind == NOTHING ? 0 : a, hasSecondNumber(kind) ? b : 0);
    }

    public int part(int node, int role, int part) {
        if (!nodes.has(node) || !isRoleOf(nodes.kind(node), role) || part < 0 || part >= node) {
            return BAD;
        }
        if (!nodes.add(node, role, part)) {
            return FULL;
        }
        sets.dropThoseAbove(node);
        bounds.forgetFrom(node);
        return nodes.size(node);
    }

    public int told(int node, int what) {
        if (!nodes.has(node)) {
            return BAD;
        }
        switch (what) {
            case 0: return nodes.kind(node);
            case 1: return nodes.first(node);
            case 2: return nodes.second(node);
            case 3: return nodes.size(node);
            case 4:
                bounds.prepare(node);
                return bounds.cost(node);
            case 5: return nodes.asked(node);
            case 6: return sets.isThere(node) ? sets.size(node) : NONE;
            default: return BAD;
        }
    }

    public int partOf(int node, int i, int what) {
        if (!nodes.has(node) || i < 0 || i >= nodes.size(node)) {
            return BAD;
        }
        switch (what) {
            case 0: return nodes.roleAt(node, i);
            case 1: return nodes.partAt(node, i);
            default: return BAD;
        }
    }

    public boolean may(int node, int object) {
        if (!nodes.has(node) || !isObject(object)) {
            return false;
        }
        bounds.prepare(node);
        return bounds.maybe(node, object);
    }

    public boolean sure(int node, int object) {
        if (!nodes.has(node) || !isObject(object)) {
            return false;
        }
        bounds.prepare(node);
        return bounds.surely(node, object);
    }

    public int look(int node, int object) {
        if (!nodes.has(node) || !isObject(object)) {
            return BAD;
        }
        bounds.prepare(node);
        if (!looker.matches(node, object)) {
            return 0;
        }
        latestScore = looker.scoreOf(node);
        return 1;
    }

    public long scored() {
        return latestScore;
    }

    public int run(int node) {
        if (!nodes.has(node)) {
            return BAD;
        }
        bounds.prepare(node);
        finds.clear();
        for (int object = 0; object < OBJECTS; object++) {
            if (looker.matches(node, object)) {
                finds.add(object, looker.scoreOf(node));
            }
        }
        return finds.size();
    }

    public int found(int k) {
        return finds.has(k) ? finds.objectAt(k) : NONE;
    }

    public long score(int k) {
        return finds.has(k) ? finds.scoreAt(k) : 0L;
    }

    public int keep(int node) {
        if (!nodes.has(node) || nodes.kind(node) != KEPT) {
            return BAD;
        }
        if (sets.isThere(node)) {
            return STATE;
        }
        int part = nodes.partAt(node, 0);
        bounds.prepare(part);
        sets.begin(node);
        for (int object = 0; object < OBJECTS; object++) {
            if (looker.matches(part, object)) {
                sets.add(node, object);
            }
        }
        bounds.forgetFrom(node);
        return sets.size(node);
    }

    public int open(int node) {
        if (!nodes.has(node)) {
            return BAD;
        }
        return iterators.start(node);
    }

    public int next(int iterator, int to) {
        if (!iterators.isOpen(iterator) || !isObject(to)) {
            return BAD;
        }
        int node = iterators.nodeOf(iterator);
        bounds.prepare(node);
        for (int object = Math.max(to, iterators.standOf(iterator) + 1); object < OBJECTS; object++) {
            if (looker.matches(node, object)) {
                iterators.stopAt(iterator, object);
                return object;
            }
        }
        iterators.finish(iterator);
        return NONE;
    }

    public int close(int iterator) {
        if (!iterators.isOpen(iterator)) {
            return BAD;
        }
        return iterators.end(iterator);
    }

    public int rewrite(int node) {
        if (!nodes.has(node)) {
            return BAD;
        }
        return rewriter.writeAnew(node);
    }

    public int sum(int what) {
        switch (what) {
            case 0: return nodes.count();
            case 1: return lists.total();
            case 2: return nodes.askedInAll();
            case 3: return iterators.countOpen();
            case 4: return sets.count();
            default: return BAD;
        }
    }

    private void listHasChanged(int list) {
        sets.dropThoseOverList(list);
        bounds.forgetFrom(0);
    }

    private boolean areNumbersOf(int kind, int a, int b) {
        switch (kind) {
            case LIST: return isList(a);
            case RANGE: return isObject(a) && isObject(b) && a <= b;
            case BOOL: return isWithin(a, MOST_LEAST);
            case BEST: return isWithin(a, MOST_SHARE);
            case CONSTANT: return nodes.has(a) && isWithin(b, MOST_NUMBER);
            case TEST: return nodes.has(a) && isWithin(b, MOST_TEST) && modulusOf(b) > 0;
            case KEPT: return nodes.has(a);
            case NOTHING: return true;
            default: return false;
        }
    }

    private static boolean hasSecondNumber(int kind) {
        return kind == RANGE || kind == CONSTANT || kind == TEST;
    }

    private static boolean isRoleOf(int kind, int role) {
        return kind == BOOL && isWithin(role, SHOULD) || kind == BEST && role == SHOULD;
    }

    private static boolean isNeeded(int role) {
        return role == MUST || role == FILTER;
    }

    private static int modulusOf(int test) {
        return test / 1000 % 1000;
    }

    private static boolean isList(int list) {
        return isWithin(list, LISTS - 1);
    }

    private static boolean isObject(int object) {
        return isWithin(object, OBJECTS - 1);
    }

    private static boolean isWithin(int number, int most) {
        return number >= 0 && number <= most;
    }

    /** The LISTS, each a stretch of the same two rows; the order in a stretch means nothing. */
    private static final class Lists {
        private final int[] objects = new int[LISTS * LIST_ROOM];
        private final int[] weights = new int[LISTS * LIST_ROOM];
        private final int[] sizes = new int[LISTS];

        int size(int list) {
            return sizes[list];
        }

        int objectAt(int list, int i) {
            return objects[list * LIST_ROOM + i];
        }

        int placeOf(int list, int object) {
            int start = list * LIST_ROOM;
            int end = start + sizes[list];
            for (int place = start; place < end; place++) {
                if (objects[place] == object) {
                    return place;
                }
            }
            return NONE;
        }

        int weightOf(int list, int object) {
            int place = placeOf(list, object);
            return place == NONE ? 0 : weights[place];
        }

        boolean store(int list, int object, int weight) {
            int place = placeOf(list, object);
            if (place == NONE) {
                if (sizes[list] >= LIST_ROOM) {
                    return false;
                }
                place = list * LIST_ROOM + sizes[list];
                sizes[list]++;
            }
            objects[place] = object;
            weights[place] = weight;
            return true;
        }

        void remove(int list, int object) {
            int place = placeOf(list, object);
            if (place == NONE) {
                return;
            }
            sizes[list]--;
            int last = list * LIST_ROOM + sizes[list];
            objects[place] = objects[last];
            weights[place] = weights[last];
        }

        int total() {
            int total = 0;
            for (int list = 0; list < LISTS; list++) {
                total += sizes[list];
            }
            return total;
        }
    }

    /** The NODES. A PART has always a lesser number than what it is a PART of, so going up by numbers meets PARTS first. */
    private static final class Nodes {
        private int count;
        private final int[] kinds = new int[NODES];
        private final int[] firsts = new int[NODES];
        private final int[] seconds = new int[NODES];
        private final int[] asked = new int[NODES];
        private final int[] sizes = new int[NODES];
        private final int[] roles = new int[NODES * PARTS];
        private final int[] parts = new int[NODES * PARTS];

        int count() {
            return count;
        }

        boolean has(int node) {
            return node >= 0 && node < count;
        }

        int kind(int node) {
            return kinds[node];
        }

        int first(int node) {
            return firsts[node];
        }

        int second(int node) {
            return seconds[node];
        }

        int size(int node) {
            return sizes[node];
        }

        int roleAt(int node, int i) {
            return roles[node * PARTS + i];
        }

        int partAt(int node, int i) {
            return parts[node * PARTS + i];
        }

        int asked(int node) {
            return asked[node];
        }

        int make(int kind, int first, int second) {
            if (count >= NODES) {
                return FULL;
            }
            int node = count;
            count++;
            kinds[node] = kind;
            firsts[node] = first;
            seconds[node] = second;
            asked[node] = 0;
            sizes[node] = 0;
            if (kind == CONSTANT || kind == TEST || kind == KEPT) {
                add(node, MUST, first);
            }
            return node;
        }

        boolean add(int node, int role, int part) {
            if (sizes[node] >= PARTS) {
                return false;
            }
            int place = node * PARTS + sizes[node];
            roles[place] = role;
            parts[place] = part;
            sizes[node]++;
            return true;
        }

        /** Only for NODES that nothing outside a rewriting has seen. */
        void shrinkTo(int fewer) {
            count = fewer;
        }

        boolean hasNumbers(int node, int kind, int first, int second) {
            return kinds[node] == kind && firsts[node] == first && seconds[node] == second;
        }

        int countOf(int node, int role) {
            int many = 0;
            for (int i = 0; i < sizes[node]; i++) {
                if (roleAt(node, i) == role) {
                    many++;
                }
            }
            return many;
        }

        /** How many SHOULDS of a BOOL have to match: one at least where nothing else has to. */
        int leastOf(int node) {
            boolean free = countOf(node, MUST) == 0 && countOf(node, FILTER) == 0;
            return free ? Math.max(firsts[node], 1) : firsts[node];
        }

        void ask(int node) {
            asked[node]++;
        }

        int askedInAll() {
            int all = 0;
            for (int node = 0; node < count; node++) {
                all += asked[node];
            }
            return all;
        }
    }

    /** For each NODE a row of bits, one for each object. */
    private static final class Rows {
        private final long[] words = new long[NODES * WORDS];

        boolean has(int node, int object) {
            return (words[node * WORDS + (object >> 6)] >>> (object & 63) & 1L) != 0L;
        }

        void add(int node, int object) {
            words[node * WORDS + (object >> 6)] |= 1L << (object & 63);
        }

        void clear(int node) {
            for (int w = 0; w < WORDS; w++) {
                words[node * WORDS + w] = 0L;
            }
        }

        void join(int node, Rows others, int other) {
            for (int w = 0; w < WORDS; w++) {
                words[node * WORDS + w] |= others.words[other * WORDS + w];
            }
        }

        long word(int node, int w) {
            return words[node * WORDS + w];
        }

        void setWord(int node, int w, long word) {
            words[node * WORDS + w] = word;
        }
    }

    /** The SETS of the KEPTS. */
    private static final class Sets {
        private final Nodes nodes;
        private final Rows rows = new Rows();
        private final boolean[] there = new boolean[NODES];
        private final int[] sizes = new int[NODES];
        private final boolean[] touched = new boolean[NODES];

        Sets(Nodes nodes) {
            this.nodes = nodes;
        }

        boolean isThere(int node) {
            return there[node];
        }

        int size(int node) {
            return sizes[node];
        }

        Rows rows() {
            return rows;
        }

        void begin(int node) {
            there[node] = true;
            sizes[node] = 0;
            rows.clear(node);
        }

        void add(int node, int object) {
            rows.add(node, object);
            sizes[node]++;
        }

        int count() {
            int many = 0;
            for (int node = 0; node < NODES; node++) {
                if (there[node]) {
                    many++;
                }
            }
            return many;
        }

        void dropThoseAbove(int changed) {
            for (int node = 0; node < nodes.count(); node++) {
                touched[node] = node == changed || touchesByParts(node);
                there[node] = there[node] && !touched[node];
            }
        }

        void dropThoseOverList(int list) {
            for (int node = 0; node < nodes.count(); node++) {
                touched[node] = nodes.hasNumbers(node, LIST, list, 0) || touchesByParts(node);
                there[node] = there[node] && !touched[node];
            }
        }

        private boolean touchesByParts(int node) {
            for (int i = 0; i < nodes.size(node); i++) {
                if (touched[nodes.partAt(node, i)]) {
                    return true;
                }
            }
            return false;
        }
    }

    /** MAY and SURE for all objects at once, the COSTS, and the order in which a LOOK goes through a BOOL. */
    private static final class Bounds {
        private final Lists lists;
        private final Nodes nodes;
        private final Sets sets;
        private final Rows mays = new Rows();
        private final Rows sures = new Rows();
        private final int[] costs = new int[NODES];
        private final int[] order = new int[NODES * PARTS];
        private final long[] enough = new long[MOST_LEAST + 1];
        private int ready;

        Bounds(Lists lists, Nodes nodes, Sets sets) {
            this.lists = lists;
            this.nodes = nodes;
            this.sets = sets;
        }

        boolean maybe(int node, int object) {
            return mays.has(node, object);
        }

        boolean surely(int node, int object) {
            return sures.has(node, object);
        }

        int cost(int node) {
            return costs[node];
        }

        int placeInOrder(int node, int i) {
            return order[node * PARTS + i];
        }

        /** What hangs on a NODE has a greater number: all below it stays as it was found. */
        void forgetFrom(int node) {
            ready = Math.min(ready, node);
        }

        void prepare(int last) {
            for (int node = ready; node <= last; node++) {
                mays.clear(node);
                sures.clear(node);
                fillRows(node);
                costs[node] = costOf(node);
                if (nodes.kind(node) == BOOL) {
                    arrange(node);
                }
            }
            ready = Math.max(ready, last + 1);
        }

        private void fillRows(int node) {
            switch (nodes.kind(node)) {
                case LIST:
                    fillByList(node);
                    break;
                case RANGE:
                    fillByRange(node);
                    break;
                case BOOL:
                    fillByBool(node);
                    break;
                case KEPT:
                    fillByKept(node);
                    break;
                case TEST:
                    mays.join(node, mays, nodes.partAt(node, 0));
                    break;
                case BEST:
                case CONSTANT:
                    joinParts(node);
                    break;
                default:
                    break;
            }
        }

        private void fillByList(int node) {
            int list = nodes.first(node);
            for (int i = 0; i < lists.size(list); i++) {
                addToBoth(node, lists.objectAt(list, i));
            }
        }

        private void fillByRange(int node) {
            for (int object = nodes.first(node); object <= nodes.second(node); object++) {
                addToBoth(node, object);
            }
        }

        private void addToBoth(int node, int object) {
            mays.add(node, object);
            sures.add(node, object);
        }

        private void fillByKept(int node) {
            if (sets.isThere(node)) {
                mays.join(node, sets.rows(), node);
                sures.join(node, sets.rows(), node);
            } else {
                joinParts(node);
            }
        }

        private void joinParts(int node) {
            for (int i = 0; i < nodes.size(node); i++) {
                mays.join(node, mays, nodes.partAt(node, i));
                sures.join(node, sures, nodes.partAt(node, i));
            }
        }

        private void fillByBool(int node) {
            int least = nodes.leastOf(node);
            for (int w = 0; w < WORDS; w++) {
                mays.setWord(node, w, boolWord(node, w, least, mays, sures));
                sures.setWord(node, w, boolWord(node, w, least, sures, mays));
            }
        }

        /** Of 64 objects those that a BOOL matches, going by one kind of rows, for its NOTS by the other. */
        private long boolWord(int node, int w, int least, Rows asked, Rows askedOfNots) {
            long fit = -1L;
            Arrays.fill(enough, 0L);
            enough[0] = -1L;
            for (int i = 0; i < nodes.size(node); i++) {
                int part = nodes.partAt(node, i);
                int role = nodes.roleAt(node, i);
                if (role == NOT) {
                    fit &= ~askedOfNots.word(part, w);
                } else if (role == SHOULD) {
                    countIn(asked.word(part, w), least);
                } else {
                    fit &= asked.word(part, w);
                }
            }
            return fit & enough[least];
        }

        /** enough[n] has the objects that n SHOULDS at least match; downward, so that one SHOULD counts once. */
        private void countIn(long should, int least) {
            for (int n = least; n > 0; n--) {
                enough[n] |= enough[n - 1] & should;
            }
        }

        private int costOf(int node) {
            switch (nodes.kind(node)) {
                case LIST: return lists.size(nodes.first(node));
                case RANGE: return nodes.second(node) - nodes.first(node) + 1;
                case BOOL: return costOfBool(node);
                case BEST: return costOfShoulds(node);
                case KEPT: return sets.isThere(node) ? sets.size(node) : costs[nodes.partAt(node, 0)];
                case CONSTANT:
                case TEST: return costs[nodes.partAt(node, 0)];
                default: return 0;
            }
        }

        private int costOfBool(int node) {
            int least = NONE;
            for (int i = 0; i < nodes.size(node); i++) {
                int cost = costs[nodes.partAt(node, i)];
                if (isNeeded(nodes.roleAt(node, i)) && (least == NONE || cost < least)) {
                    least = cost;
                }
            }
            return least == NONE ? costOfShoulds(node) : least;
        }

        private int costOfShoulds(int node) {
            int together = 0;
            for (int i = 0; i < nodes.size(node); i++) {
                if (nodes.roleAt(node, i) == SHOULD) {
                    together += costs[nodes.partAt(node, i)];
                }
            }
            return Math.min(together, OBJECTS);
        }

        /** Puts each place behind those of a like rank, so that like ones stay in order. */
        private void arrange(int node) {
            int start = node * PARTS;
            for (int i = 0; i < nodes.size(node); i++) {
                int rank = rankOf(node, i);
                int at = start + i;
                while (at > start && rankOf(node, order[at - 1]) > rank) {
                    order[at] = order[at - 1];
                    at--;
                }
                order[at] = i;
            }
        }

        /** MUSTS and FILTERS by their COSTS, which are OBJECTS at most; then the NOTS, then the SHOULDS. */
        private int rankOf(int node, int i) {
            int role = nodes.roleAt(node, i);
            return isNeeded(role) ? costs[nodes.partAt(node, i)] : OBJECTS + role;
        }
    }

    /** The LOOK. It keeps the way down in a row of its own: NODES may hang 80 deep, too deep for calls in calls. */
    private static final class Looker {
        private static final int UNKNOWN = 0, MATCHES = 1, FAILS = 2;

        private final Lists lists;
        private final Nodes nodes;
        private final Sets sets;
        private final Bounds bounds;
        private final int[] outcomes = new int[NODES];
        private final long[] scores = new long[NODES];
        private final int[] way = new int[NODES];

        Looker(Lists lists, Nodes nodes, Sets sets, Bounds bounds) {
            this.lists = lists;
            this.nodes = nodes;
            this.sets = sets;
            this.bounds = bounds;
        }

        /** The bounds must be prepared for the NODE. */
        boolean matches(int node, int object) {
            if (!bounds.maybe(node, object)) {
                return false;
            }
            Arrays.fill(outcomes, UNKNOWN);
            way[0] = node;
            int depth = 1;
            // a turn begins a NODE or ends one, and each has but one of both
            for (int turn = 0; turn < 2 * NODES && depth > 0; turn++) {
                int last = way[depth - 1];
                int wanted = wantedBy(last, object);
                if (wanted != NONE && depth < NODES) {
                    way[depth] = wanted;
                    depth++;
                } else {
                    boolean fits = bounds.maybe(last, object) && fitsByParts(last, object);
                    outcomes[last] = fits ? MATCHES : FAILS;
                    scores[last] = fits ? scoreByParts(last, object) : 0L;
                    depth--;
                }
            }
            return outcomes[node] == MATCHES;
        }

        long scoreOf(int node) {
            return scores[node];
        }

        /** The PART that must be come to next before the NODE can be settled, NONE if it can be. */
        private int wantedBy(int node, int object) {
            if (!bounds.maybe(node, object) || sets.isThere(node)) {
                return NONE;
            }
            if (nodes.kind(node) == BOOL) {
                return wantedByBool(node, object);
            }
            for (int i = 0; i < nodes.size(node); i++) {
                int part = nodes.partAt(node, i);
                if (outcomes[part] == UNKNOWN) {
                    return part;
                }
            }
            return NONE;
        }

        private int wantedByBool(int node, int object) {
            for (int i = 0; i < nodes.size(node); i++) {
                int place = bounds.placeInOrder(node, i);
                int part = nodes.partAt(node, place);
                int role = nodes.roleAt(node, place);
                boolean holds = holds(part, role, object);
                if (!holds && outcomes[part] == UNKNOWN) {
                    return part;
                }
                if (role != SHOULD && holds != isNeeded(role)) {
                    return NONE;
                }
            }
            return NONE;
        }

        /** A FILTER or a NOT that is SURE matches without being come to: its SCORE is of no use. */
        private boolean holds(int part, int role, int object) {
            boolean free = role == FILTER || role == NOT;
            return outcomes[part] == MATCHES || free && bounds.surely(part, object);
        }

        /** LIST, RANGE, NOTHING and a SET match where MAY is so. */
        private boolean fitsByParts(int node, int object) {
            switch (nodes.kind(node)) {
                case BOOL: return fitsBool(node, object);
                case BEST:
                case CONSTANT: return somePartMatches(node);
                case TEST: return somePartMatches(node) && passesTest(node, object);
                case KEPT: return sets.isThere(node) || somePartMatches(node);
                default: return true;
            }
        }

        private boolean somePartMatches(int node) {
            for (int i = 0; i < nodes.size(node); i++) {
                if (outcomes[nodes.partAt(node, i)] == MATCHES) {
                    return true;
                }
            }
            return false;
        }

        private boolean fitsBool(int node, int object) {
            int shoulds = 0;
            for (int i = 0; i < nodes.size(node); i++) {
                int role = nodes.roleAt(node, i);
                boolean holds = holds(nodes.partAt(node, i), role, object);
                if (role != SHOULD && holds != isNeeded(role)) {
                    return false;
                }
                if (role == SHOULD && holds) {
                    shoulds++;
                }
            }
            return shoulds >= nodes.leastOf(node);
        }

        private boolean passesTest(int node, int object) {
            nodes.ask(node);
            int test = nodes.second(node);
            int modulus = modulusOf(test);
            return modulus > 0 && test / 1000000 * object % modulus < test % 1000;
        }

        private long scoreByParts(int node, int object) {
            switch (nodes.kind(node)) {
                case LIST: return lists.weightOf(nodes.first(node), object);
                case BOOL: return scoreOfBool(node);
                case BEST: return scoreOfBest(node);
                case CONSTANT: return nodes.second(node);
                case TEST: return scores[nodes.partAt(node, 0)];
                default: return 0L;
            }
        }

        private long scoreOfBool(int node) {
            long together = 0L;
            for (int i = 0; i < nodes.size(node); i++) {
                int role = nodes.roleAt(node, i);
                int part = nodes.partAt(node, i);
                if ((role == MUST || role == SHOULD) && outcomes[part] == MATCHES) {
                    together += scores[part];
                }
            }
            return together;
        }

        private long scoreOfBest(int node) {
            long together = 0L;
            long greatest = 0L;
            boolean some = false;
            for (int i = 0; i < nodes.size(node); i++) {
                int part = nodes.partAt(node, i);
                if (outcomes[part] == MATCHES) {
                    together += scores[part];
                    // the first is the greatest so far even if it wrapped below 0
                    greatest = some ? Math.max(greatest, scores[part]) : scores[part];
                    some = true;
                }
            }
            return greatest + (together - greatest) * nodes.first(node) / 100L;
        }
    }

    /** The FOUND of the latest RUN. */
    private static final class Finds {
        private final int[] objects = new int[OBJECTS];
        private final long[] scores = new long[OBJECTS];
        private int size;

        int size() {
            return size;
        }

        boolean has(int k) {
            return k >= 0 && k < size;
        }

        int objectAt(int k) {
            return objects[k];
        }

        long scoreAt(int k) {
            return scores[k];
        }

        void clear() {
            size = 0;
        }

        void add(int object, long score) {
            if (size < OBJECTS) {
                objects[size] = object;
                scores[size] = score;
                size++;
            }
        }
    }

    /** The ITERATORS; one that is over stands on the last object, so that none is behind it. */
    private static final class Iterators {
        private final boolean[] opened = new boolean[ITERATORS];
        private final int[] nodes = new int[ITERATORS];
        private final int[] stands = new int[ITERATORS];
        private final int[] founds = new int[ITERATORS];

        boolean isOpen(int iterator) {
            return isWithin(iterator, ITERATORS - 1) && opened[iterator];
        }

        int nodeOf(int iterator) {
            return nodes[iterator];
        }

        int standOf(int iterator) {
            return stands[iterator];
        }

        int start(int node) {
            for (int iterator = 0; iterator < ITERATORS; iterator++) {
                if (!opened[iterator]) {
                    opened[iterator] = true;
                    nodes[iterator] = node;
                    stands[iterator] = NONE;
                    founds[iterator] = 0;
                    return iterator;
                }
            }
            return FULL;
        }

        void stopAt(int iterator, int object) {
            stands[iterator] = object;
            founds[iterator]++;
        }

        void finish(int iterator) {
            stands[iterator] = OBJECTS - 1;
        }

        int end(int iterator) {
            opened[iterator] = false;
            return founds[iterator];
        }

        int countOpen() {
            int many = 0;
            for (int iterator = 0; iterator < ITERATORS; iterator++) {
                if (opened[iterator]) {
                    many++;
                }
            }
            return many;
        }
    }

    /** The PARTS with their ROLES that a BOOL or BEST written anew is to have. */
    private static final class PartRow {
        private final int[] roles = new int[PARTS];
        private final int[] parts = new int[PARTS];
        private int size;

        int size() {
            return size;
        }

        int roleAt(int i) {
            return roles[i];
        }

        int partAt(int i) {
            return parts[i];
        }

        void clear() {
            size = 0;
        }

        void add(int role, int part) {
            if (size < PARTS) {
                roles[size] = role;
                parts[size] = part;
                size++;
            }
        }

        int countOf(int role) {
            int many = 0;
            for (int i = 0; i < size; i++) {
                if (roles[i] == role) {
                    many++;
                }
            }
            return many;
        }

        void makeShouldsMusts() {
            for (int i = 0; i < size; i++) {
                if (roles[i] == SHOULD) {
                    roles[i] = MUST;
                }
            }
        }

        boolean contradictsItself() {
            for (int i = 0; i < size; i++) {
                if (roles[i] == NOT && (hasAhead(size, MUST, parts[i]) || hasAhead(size, FILTER, parts[i]))) {
                    return true;
                }
            }
            return false;
        }

        /** A FILTER that went because of a like one leaves that one, so what is left still speaks for it. */
        void leaveOutRepeats() {
            int left = 0;
            for (int i = 0; i < size; i++) {
                if (!isRepeat(i, left)) {
                    roles[left] = roles[i];
                    parts[left] = parts[i];
                    left++;
                }
            }
            size = left;
        }

        private boolean isRepeat(int i, int left) {
            int part = parts[i];
            if (roles[i] == FILTER) {
                return hasAhead(left, FILTER, part) || hasAhead(left, MUST, part) || hasBehind(i, MUST, part);
            }
            return roles[i] == NOT && hasAhead(left, NOT, part);
        }

        private boolean hasAhead(int end, int role, int part) {
            for (int i = 0; i < end; i++) {
                if (roles[i] == role && parts[i] == part) {
                    return true;
                }
            }
            return false;
        }

        private boolean hasBehind(int place, int role, int part) {
            for (int i = place + 1; i < size; i++) {
                if (roles[i] == role && parts[i] == part) {
                    return true;
                }
            }
            return false;
        }
    }

    /** Writes NODES anew. */
    private static final class Rewriter {
        private final Lists lists;
        private final Nodes nodes;
        private final boolean[] under = new boolean[NODES];
        private final int[] news = new int[NODES];
        private final PartRow row = new PartRow();

        Rewriter(Lists lists, Nodes nodes) {
            this.lists = lists;
            this.nodes = nodes;
        }

        int writeAnew(int top) {
            int before = nodes.count();
            markUnder(top);
            for (int node = 0; node <= top; node++) {
                if (under[node]) {
                    int anew = newOf(node);
                    news[node] = anew == NONE ? thatIsSo(NOTHING, 0, 0) : anew;
                    if (news[node] < 0) {
                        nodes.shrinkTo(before);
                        return FULL;
                    }
                }
            }
            return news[top];
        }

        private void markUnder(int top) {
            for (int node = 0; node < top; node++) {
                under[node] = false;
            }
            under[top] = true;
            for (int node = top; node > 0; node--) {
                for (int i = 0; under[node] && i < nodes.size(node); i++) {
                    under[nodes.partAt(node, i)] = true;
                }
            }
        }

        /** NONE stands for the NOTHING that is so. */
        private int newOf(int node) {
            int kind = nodes.kind(node);
            switch (kind) {
                case LIST:
                    return lists.size(nodes.first(node)) == 0 ? NONE : thatIsSo(kind, nodes.first(node), 0);
                case BOOL:
                    return gatherBool(node) ? boolOfRow(nodes.first(node)) : NONE;
                case BEST:
                    return newOfBest(node);
                case CONSTANT:
                case TEST:
                case KEPT:
                    return newOfOne(kind, news[nodes.partAt(node, 0)], nodes.second(node));
                default:
                    return thatIsSo(kind, nodes.first(node), nodes.second(node));
            }
        }

        private int newOfOne(int kind, int part, int second) {
            int kindOfPart = nodes.kind(part);
            if (kindOfPart == NOTHING || kind == KEPT && kindOfPart == KEPT) {
                return part;
            }
            if (kindOfPart == CONSTANT && kind != TEST) {
                return thatIsSo(kind, nodes.partAt(part, 0), second);
            }
            return thatIsSo(kind, part, second);
        }

        private int newOfBest(int node) {
            row.clear();
            for (int i = 0; i < nodes.size(node); i++) {
                int part = news[nodes.partAt(node, i)];
                if (nodes.kind(part) != NOTHING) {
                    row.add(SHOULD, part);
                }
            }
            if (row.size() == 0) {
                return NONE;
            }
            return row.size() == 1 ? row.partAt(0) : thatIsSoWithRow(BEST, nodes.first(node));
        }

        /** Fills the row; false if a MUST or FILTER is a NOTHING. */
        private boolean gatherBool(int node) {
            row.clear();
            for (int i = 0; i < nodes.size(node); i++) {
                int role = nodes.roleAt(node, i);
                int part = news[nodes.partAt(node, i)];
                int toCome = nodes.size(node) - i - 1;
                if (nodes.kind(part) == NOTHING) {
                    if (isNeeded(role)) {
                        return false;
                    }
                } else if (canDissolve(role, part, nodes.first(node))
                        && row.size() + nodes.size(part) + toCome <= PARTS) {
                    dissolve(role, part);
                } else {
                    row.add(role, part);
                }
            }
            return true;
        }

        private boolean canDissolve(int role, int part, int outerLeast) {
            if (nodes.kind(part) != BOOL || role == NOT) {
                return false;
            }
            int least = nodes.first(part);
            int shoulds = nodes.countOf(part, SHOULD);
            if (role == SHOULD) {
                return outerLeast <= 1 && least <= 1 && shoulds == nodes.size(part);
            }
            return least == 0 && shoulds == 0;
        }

        private void dissolve(int role, int part) {
            for (int i = 0; i < nodes.size(part); i++) {
                int inner = nodes.roleAt(part, i);
                row.add(role == FILTER && inner == MUST ? FILTER : inner, nodes.partAt(part, i));
            }
        }

        private int boolOfRow(int outerLeast) {
            int least = outerLeast;
            int shoulds = row.countOf(SHOULD);
            if (least > shoulds) {
                return NONE;
            }
            if (row.countOf(MUST) == 0 && row.countOf(FILTER) == 0) {
                if (shoulds == 0) {
                    return NONE;
                }
                least = Math.max(least, 1);
            }
            if (least > 0 && least == shoulds) {
                row.makeShouldsMusts();
                least = 0;
            }
            if (row.contradictsItself()) {
                return NONE;
            }
            row.leaveOutRepeats();
            if (row.size() == 1 && row.roleAt(0) == MUST) {
                return row.partAt(0);
            }
            return thatIsSoWithRow(BOOL, least);
        }

        private int thatIsSo(int kind, int first, int second) {
            for (int node = 0; node < nodes.count(); node++) {
                if (nodes.hasNumbers(node, kind, first, second)) {
                    return node;
                }
            }
            return nodes.make(kind, first, second);
        }

        private int thatIsSoWithRow(int kind, int first) {
            for (int node = 0; node < nodes.count(); node++) {
                if (nodes.hasNumbers(node, kind, first, 0) && hasPartsOfRow(node)) {
                    return node;
                }
            }
            int made = nodes.make(kind, first, 0);
            for (int i = 0; made >= 0 && i < row.size(); i++) {
                nodes.add(made, row.roleAt(i), row.partAt(i));
            }
            return made;
        }

        private boolean hasPartsOfRow(int node) {
            if (nodes.size(node) != row.size()) {
                return false;
            }
            for (int i = 0; i < row.size(); i++) {
                if (nodes.roleAt(node, i) != row.roleAt(i) || nodes.partAt(node, i) != row.partAt(i)) {
                    return false;
                }
            }
            return true;
        }
    }
}
