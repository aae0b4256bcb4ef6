import java.util.ArrayList;
import java.util.HashMap;
import java.util.List;
import java.util.Map;
import java.util.TreeMap;
import java.util.TreeSet;

/** The document once more, in the plainest words: object by object, by recursion, with the whole Java library. */
final class Model {
    private static final int NONE = -1, BAD = -2, FULL = -3, STATE = -4;

    private static final class Node {
        int kind, a, b, asked;
        final List<int[]> parts = new ArrayList<>();
        TreeSet<Integer> set;
    }

    private static final class Cursor {
        int node, stand = -1, found;
        boolean over;
    }

    private final List<TreeMap<Integer, Integer>> lists = new ArrayList<>();
    private List<Node> nodes = new ArrayList<>();
    private final Cursor[] cursors = new Cursor[8];
    private List<long[]> found = new ArrayList<>();
    private long scored;

    Model() {
        for (int i = 0; i < 16; i++) {
            lists.add(new TreeMap<>());
        }
    }

    private boolean in(int x, int low, int high) {
        return low <= x && x <= high;
    }

    private boolean isNode(int n) {
        return in(n, 0, nodes.size() - 1);
    }

    int put(int list, int object, int weight) {
        if (!in(list, 0, 15) || !in(object, 0, 511) || !in(weight, 0, 1000000)) return BAD;
        TreeMap<Integer, Integer> l = lists.get(list);
        if (!l.containsKey(object) && l.size() == 60) return FULL;
        l.put(object, weight);
        dropSetsOver(-1, list);
        return l.size();
    }

    int take(int list, int object) {
        if (!in(list, 0, 15) || !in(object, 0, 511)) return BAD;
        Integer w = lists.get(list).remove(object);
        if (w == null) return STATE;
        dropSetsOver(-1, list);
        return w;
    }

    int node(int kind, int a, int b) {
        boolean good = false;
        if (kind == 0) { good = in(a, 0, 15); b = 0; }
        if (kind == 1) good = in(a, 0, 511) && in(b, 0, 511) && a <= b;
        if (kind == 2) { good = in(a, 0, 8); b = 0; }
        if (kind == 3) { good = in(a, 0, 100); b = 0; }
        if (kind == 4) good = isNode(a) && in(b, 0, 1000000);
        if (kind == 5) good = isNode(a) && b >= 0 && b / 1000000 <= 999 && b / 1000 % 1000 > 0;
        if (kind == 6) { good = isNode(a); b = 0; }
        if (kind == 7) { good = true; a = 0; b = 0; }
        if (!good) return BAD;
        if (nodes.size() == 80) return FULL;
        return create(nodes, kind, a, b, null);
    }

    private int create(List<Node> where, int kind, int a, int b, List<int[]> parts) {
        Node n = new Node();
        n.kind = kind;
        n.a = a;
        n.b = b;
        if (kind >= 4 && kind <= 6) n.parts.add(new int[] {0, a});
        if (parts != null) for (int[] p : parts) n.parts.add(p.clone());
        where.add(n);
        return where.size() - 1;
    }

    int part(int node, int role, int part) {
        if (!isNode(node)) return BAD;
        Node n = nodes.get(node);
        if (n.kind != 2 && n.kind != 3) return BAD;
        if (!in(role, n.kind == 2 ? 0 : 3, 3)) return BAD;
        if (!in(part, 0, node - 1)) return BAD;
        if (n.parts.size() == 8) return FULL;
        n.parts.add(new int[] {role, part});
        dropSetsOver(node, -1);
        return n.parts.size();
    }

    private TreeSet<Integer> under(int node) {
        TreeSet<Integer> all = new TreeSet<>();
        List<Integer> todo = new ArrayList<>(List.of(node));
        while (!todo.isEmpty()) {
            for (int[] p : nodes.get(todo.remove(todo.size() - 1)).parts) {
                if (all.add(p[1])) todo.add(p[1]);
            }
        }
        return all;
    }

    private void dropSetsOver(int node, int list) {
        for (int k = 0; k < nodes.size(); k++) {
            if (nodes.get(k).set == null) continue;
            for (int u : under(k)) {
                Node n = nodes.get(u);
                if (u == node || n.kind == 0 && n.a == list) nodes.get(k).set = null;
            }
        }
    }

    int told(int node, int what) {
        if (!isNode(node)) return BAD;
        Node n = nodes.get(node);
        if (what == 0) return n.kind;
        if (what == 1) return n.a;
        if (what == 2) return n.b;
        if (what == 3) return n.parts.size();
        if (what == 4) return cost(node, new HashMap<>());
        if (what == 5) return n.asked;
        if (what == 6) return n.set == null ? NONE : n.set.size();
        return BAD;
    }

    int partOf(int node, int i, int what) {
        if (!isNode(node) || !in(i, 0, nodes.get(node).parts.size() - 1) || !in(what, 0, 1)) return BAD;
        return nodes.get(node).parts.get(i)[what];
    }

    private int cost(int node, Map<Integer, Integer> memo) {
        Integer known = memo.get(node);
        if (known != null) return known;
        Node n = nodes.get(node);
        int c = 0;
        if (n.kind == 0) c = lists.get(n.a).size();
        if (n.kind == 1) c = n.b - n.a + 1;
        if (n.kind == 4 || n.kind == 5) c = cost(n.a, memo);
        if (n.kind == 6) c = n.set != null ? n.set.size() : cost(n.a, memo);
        if (n.kind == 2 || n.kind == 3) {
            int least = Integer.MAX_VALUE, sum = 0;
            for (int[] p : n.parts) {
                int of = cost(p[1], memo);
                if (p[0] < 2) least = Math.min(least, of);
                if (p[0] == 3) sum += of;
            }
            c = least < Integer.MAX_VALUE ? least : Math.min(512, sum);
        }
        memo.put(node, c);
        return c;
    }

    /** which: 0 MAY, 1 SURE. */
    private boolean bound(int node, int object, int which, Map<Integer, Boolean> memo) {
        int key = node * 2 + which;
        Boolean known = memo.get(key);
        if (known != null) return known;
        Node n = nodes.get(node);
        boolean is = false;
        if (n.kind == 0) is = lists.get(n.a).containsKey(object);
        if (n.kind == 1) is = in(object, n.a, n.b);
        if (n.kind == 4) is = bound(n.a, object, which, memo);
        if (n.kind == 5) is = which == 0 && bound(n.a, object, 0, memo);
        if (n.kind == 6) is = n.set != null ? n.set.contains(object) : bound(n.a, object, which, memo);
        if (n.kind == 3) for (int[] p : n.parts) is |= bound(p[1], object, which, memo);
        if (n.kind == 2) {
            boolean all = true;
            int shoulds = 0, positive = 0;
            for (int[] p : n.parts) {
                if (p[0] == 2) {
                    all &= !bound(p[1], object, 1 - which, memo);
                } else {
                    boolean m = bound(p[1], object, which, memo);
                    if (p[0] < 2) all &= m;
                    if (p[0] == 3 && m) shoulds++;
                    if (m) positive++;
                }
            }
            is = all && shoulds >= n.a && positive > 0;
        }
        memo.put(key, is);
        return is;
    }

    boolean may(int node, int object) {
        return isNode(node) && in(object, 0, 511) && bound(node, object, 0, new HashMap<>());
    }

    boolean sure(int node, int object) {
        return isNode(node) && in(object, 0, 511) && bound(node, object, 1, new HashMap<>());
    }

    /** One LOOK; its memory of what it went through. A null in it: does not match. */
    private final class Look {
        final int object;
        final Map<Integer, Boolean> bounds = new HashMap<>();
        final Map<Integer, Integer> costs;
        final Map<Integer, Long> gone = new HashMap<>();

        Look(int object, Map<Integer, Integer> costs) {
            this.object = object;
            this.costs = costs;
        }

        Long come(int node) {
            if (gone.containsKey(node)) return gone.get(node);
            Long s = bound(node, object, 0, bounds) ? go(nodes.get(node)) : null;
            gone.put(node, s);
            return s;
        }

        Long go(Node n) {
            if (n.kind == 0) return (long) lists.get(n.a).get(object);
            if (n.kind == 1) return 0L;
            if (n.kind == 6) return n.set != null || come(n.a) != null ? 0L : null;
            if (n.kind == 4) return come(n.a) != null ? (long) n.b : null;
            if (n.kind == 5) {
                Long s = come(n.a);
                if (s == null) return null;
                n.asked++;
                return (n.b / 1000000) * object % (n.b / 1000 % 1000) < n.b % 1000 ? s : null;
            }
            return n.kind == 3 ? goBest(n) : goBool(n);
        }

        Long goBest(Node n) {
            List<Long> scores = new ArrayList<>();
            for (int[] p : n.parts) {
                Long s = come(p[1]);
                if (s != null) scores.add(s);
            }
            if (scores.isEmpty()) return null;
            scores.sort(null);
            long best = scores.remove(scores.size() - 1), others = 0;
            for (long s : scores) others += s;
            return best + others * n.a / 100;
        }

        Long goBool(Node n) {
            List<int[]> needed = new ArrayList<>();
            for (int[] p : n.parts) if (p[0] < 2) needed.add(p);
            needed.sort((p, q) -> Integer.compare(cost(p[1], costs), cost(q[1], costs)));
            long score = 0;
            for (int[] p : needed) {
                if (p[0] == 1 && bound(p[1], object, 1, bounds)) continue;
                Long s = come(p[1]);
                if (s == null) return null;
                if (p[0] == 0) score += s;
            }
            for (int[] p : n.parts) {
                if (p[0] == 2 && (bound(p[1], object, 1, bounds) || come(p[1]) != null)) return null;
            }
            int shoulds = 0;
            for (int[] p : n.parts) {
                if (p[0] != 3) continue;
                Long s = come(p[1]);
                if (s != null) {
                    shoulds++;
                    score += s;
                }
            }
            return shoulds >= n.a && needed.size() + shoulds > 0 ? score : null;
        }
    }

    private Long lookAt(int node, int object) {
        return new Look(object, new HashMap<>()).come(node);
    }

    int look(int node, int object) {
        if (!isNode(node) || !in(object, 0, 511)) return BAD;
        Long s = lookAt(node, object);
        if (s == null) return 0;
        scored = s;
        return 1;
    }

    long scored() {
        return scored;
    }

    int run(int node) {
        if (!isNode(node)) return BAD;
        found = new ArrayList<>();
        for (int o = 0; o < 512; o++) {
            Long s = lookAt(node, o);
            if (s != null) found.add(new long[] {o, s});
        }
        return found.size();
    }

    int found(int k) {
        return in(k, 0, found.size() - 1) ? (int) found.get(k)[0] : NONE;
    }

    long score(int k) {
        return in(k, 0, found.size() - 1) ? found.get(k)[1] : 0;
    }

    int keep(int node) {
        if (!isNode(node) || nodes.get(node).kind != 6) return BAD;
        Node n = nodes.get(node);
        if (n.set != null) return STATE;
        TreeSet<Integer> set = new TreeSet<>();
        for (int o = 0; o < 512; o++) if (lookAt(n.a, o) != null) set.add(o);
        n.set = set;
        return set.size();
    }

    int open(int node) {
        if (!isNode(node)) return BAD;
        for (int i = 0; i < 8; i++) {
            if (cursors[i] == null) {
                cursors[i] = new Cursor();
                cursors[i].node = node;
                return i;
            }
        }
        return FULL;
    }

    int next(int iterator, int to) {
        if (!in(iterator, 0, 7) || cursors[iterator] == null || !in(to, 0, 511)) return BAD;
        Cursor c = cursors[iterator];
        for (int o = to; o < 512 && !c.over; o++) {
            if (o > c.stand && lookAt(c.node, o) != null) {
                c.stand = o;
                c.found++;
                return o;
            }
        }
        c.over = true;
        return NONE;
    }

    int close(int iterator) {
        if (!in(iterator, 0, 7) || cursors[iterator] == null) return BAD;
        int many = cursors[iterator].found;
        cursors[iterator] = null;
        return many;
    }

    int rewrite(int node) {
        if (!isNode(node)) return BAD;
        List<Node> trial = new ArrayList<>(nodes);
        Map<Integer, Integer> news = new HashMap<>();
        TreeSet<Integer> all = under(node);
        all.add(node);
        for (int n : all) news.put(n, newOf(trial, n, news));
        if (trial.size() > 80) return FULL;
        nodes = trial;
        return news.get(node);
    }

    private int so(List<Node> trial, int kind, int a, int b, List<int[]> parts) {
        for (int i = 0; i < trial.size(); i++) {
            Node n = trial.get(i);
            if (n.kind != kind || n.a != a || n.b != b) continue;
            if (parts == null) return i;
            boolean same = n.parts.size() == parts.size();
            for (int j = 0; same && j < parts.size(); j++) {
                same = n.parts.get(j)[0] == parts.get(j)[0] && n.parts.get(j)[1] == parts.get(j)[1];
            }
            if (same) return i;
        }
        return create(trial, kind, a, b, parts);
    }

    private int newOf(List<Node> trial, int node, Map<Integer, Integer> news) {
        Node n = nodes.get(node);
        if (n.kind == 0) return lists.get(n.a).isEmpty() ? so(trial, 7, 0, 0, null) : so(trial, 0, n.a, 0, null);
        if (n.kind == 1 || n.kind == 7) return so(trial, n.kind, n.a, n.b, null);
        if (n.kind == 2) return newBool(trial, n, news);
        if (n.kind == 3) {
            List<int[]> left = new ArrayList<>();
            for (int[] p : n.parts) if (trial.get(news.get(p[1])).kind != 7) left.add(new int[] {3, news.get(p[1])});
            if (left.isEmpty()) return so(trial, 7, 0, 0, null);
            return left.size() == 1 ? left.get(0)[1] : so(trial, 3, n.a, 0, left);
        }
        int p = news.get(n.a);
        Node of = trial.get(p);
        if (of.kind == 7) return p;
        if (n.kind == 4) return so(trial, 4, of.kind == 4 ? of.a : p, n.b, null);
        if (n.kind == 5) return so(trial, 5, p, n.b, null);
        if (of.kind == 6) return p;
        return so(trial, 6, of.kind == 4 ? of.a : p, 0, null);
    }

    private static int count(List<int[]> row, int role) {
        int many = 0;
        for (int[] p : row) if (p[0] == role) many++;
        return many;
    }

    private int newBool(List<Node> trial, Node n, Map<Integer, Integer> news) {
        List<int[]> row = new ArrayList<>();
        int least = n.a;
        for (int i = 0; i < n.parts.size(); i++) {
            int role = n.parts.get(i)[0], p = news.get(n.parts.get(i)[1]);
            Node of = trial.get(p);
            if (of.kind == 7) {
                if (role < 2) return so(trial, 7, 0, 0, null);
                continue;
            }
            boolean room = row.size() + of.parts.size() + n.parts.size() - 1 - i <= 8;
            boolean hard = of.kind == 2 && of.a == 0 && count(of.parts, 3) == 0;
            boolean soft = of.kind == 2 && of.a <= 1 && least <= 1 && count(of.parts, 3) == of.parts.size();
            if (role == 0 && hard && room) {
                for (int[] q : of.parts) row.add(q.clone());
            } else if (role == 1 && hard && room) {
                for (int[] q : of.parts) row.add(new int[] {q[0] == 2 ? 2 : 1, q[1]});
            } else if (role == 3 && soft && room) {
                for (int[] q : of.parts) row.add(new int[] {3, q[1]});
            } else {
                row.add(new int[] {role, p});
            }
        }
        int shoulds = count(row, 3);
        if (least > shoulds) return so(trial, 7, 0, 0, null);
        if (count(row, 0) + count(row, 1) == 0) {
            if (shoulds == 0) return so(trial, 7, 0, 0, null);
            if (least == 0) least = 1;
        }
        if (least > 0 && least == shoulds) {
            for (int[] p : row) if (p[0] == 3) p[0] = 0;
            least = 0;
        }
        List<int[]> left = new ArrayList<>();
        for (int i = 0; i < row.size(); i++) {
            int[] p = row.get(i);
            boolean out = false;
            for (int j = 0; j < row.size(); j++) {
                int[] q = row.get(j);
                if (j == i || q[1] != p[1]) continue;
                if (p[0] == 1 && (q[0] == 0 || q[0] == 1 && j < i)) out = true;
                if (p[0] == 2 && q[0] == 2 && j < i) out = true;
                if (p[0] == 2 && q[0] < 2) return so(trial, 7, 0, 0, null);
            }
            if (!out) left.add(p);
        }
        if (left.size() == 1 && left.get(0)[0] == 0) return left.get(0)[1];
        return so(trial, 2, least, 0, left);
    }

    int sum(int what) {
        int s = 0;
        if (what == 0) return nodes.size();
        if (what == 1) for (TreeMap<Integer, Integer> l : lists) s += l.size();
        else if (what == 2) for (Node n : nodes) s += n.asked;
        else if (what == 3) for (Cursor c : cursors) s += c != null ? 1 : 0;
        else if (what == 4) for (Node n : nodes) s += n.set != null ? 1 : 0;
        else return BAD;
        return s;
    }
}
