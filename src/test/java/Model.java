import java.util.ArrayList;
import java.util.List;

/**
 * The document once more, written in another way (by recursion and lists), to compare answers with.
 * It shares no code with StoryDecompile.
 */
final class Model {
    private static final int NONE = -1, BAD = -2, NO = -3, FULL = -4;
    private static final int SAY = 0, ADD = 1, GO = 2, TEST = 3, DONE = 4, CALL = 5;

    private static final class Node {
        int kind, begin, behind, number, inside;
        Node parent;
        int side = NONE;
        int a, b, c, actKind;
        final List<List<Node>> bodies = new ArrayList<>();
    }

    private static final class Read {
        final List<Node> nodes = new ArrayList<>();
        final List<Node> top = new ArrayList<>();
        final List<Integer> text = new ArrayList<>();
        Node[] owner;
        int deepest = 1;
    }

    private static final class Wrong extends RuntimeException {
        private static final long serialVersionUID = 1L;
        final int fault, place;

        Wrong(int fault, int place) {
            this.fault = fault;
            this.place = place;
        }
    }

    private final List<List<int[]>> routines = new ArrayList<>();
    private final List<Integer> tape = new ArrayList<>();
    private final int[] registers = new int[4];
    private int faultPlace = NONE;
    private int steps, calls;
    private int[] last = new int[4];
    private final List<Integer> said = new ArrayList<>();

    int routine() {
        if (routines.size() == 12) {
            return FULL;
        }
        routines.add(new ArrayList<>());
        return routines.size() - 1;
    }

    private boolean no(int r) {
        return r < 0 || r >= routines.size();
    }

    private static int[] made(int kind, int a, int b, int c) {
        switch (kind) {
            case SAY: return new int[] {kind, a, 0, 0};
            case ADD: return a < 0 || a > 3 ? null : new int[] {kind, a, b, 0};
            case GO: return c < 0 || c > 60 ? null : new int[] {kind, 0, 0, c};
            case TEST: return a < 0 || a > 3 || b < 0 || b > 5 || c < 0 || c > 60 ? null : new int[] {kind, a, b, c};
            case DONE: return new int[] {kind, 0, 0, 0};
            case CALL: return a < 0 || a > 11 ? null : new int[] {kind, a, 0, 0};
            default: return null;
        }
    }

    int act(int r, int kind, int a, int b, int c) {
        int[] act = made(kind, a, b, c);
        if (no(r) || act == null) {
            return BAD;
        }
        if (routines.get(r).size() == 60) {
            return FULL;
        }
        routines.get(r).add(act);
        return routines.get(r).size() - 1;
    }

    int alter(int r, int i, int kind, int a, int b, int c) {
        int[] act = made(kind, a, b, c);
        if (no(r) || act == null || i < 0 || i >= routines.get(r).size()) {
            return BAD;
        }
        routines.get(r).set(i, act);
        return i;
    }

    private boolean whole(int r) {
        List<int[]> acts = routines.get(r);
        return acts.stream().allMatch(act -> act[3] <= acts.size());
    }

    private Read read(int r) {
        List<int[]> acts = routines.get(r);
        Read read = new Read();
        read.owner = new Node[acts.size()];
        body(acts, read, read.top, 0, acts.size(), NONE, NONE, null, NONE, 1);
        text(read.text, read.top);
        return read;
    }

    private static Node node(Read read, List<Node> into, int kind, int begin, int behind, Node parent, int side) {
        Node node = new Node();
        node.kind = kind;
        node.begin = begin;
        node.behind = behind;
        node.parent = parent;
        node.side = side;
        node.number = read.nodes.size();
        read.nodes.add(node);
        into.add(node);
        for (Node p = parent; p != null; p = p.parent) {
            p.inside++;
        }
        return node;
    }

    private static void body(List<int[]> acts, Read read, List<Node> into, int i, int j, int b, int c,
                             Node parent, int side, int depth) {
        read.deepest = Math.max(read.deepest, depth);
        int k = i;
        while (k < j) {
            int m = NONE;
            for (int p = k; p < j; p++) {
                int[] act = acts.get(p);
                if ((act[0] == GO || act[0] == TEST) && act[3] == k) {
                    m = p;
                }
            }
            for (Node p = parent; p != null; p = p.parent) {
                if ((p.kind == 3 || p.kind == 5) && p.begin == k) {
                    m = NONE;
                }
            }
            int[] act = acts.get(k);
            if (m != NONE) {
                boolean isDo = acts.get(m)[0] == TEST;
                boolean isWhile = !isDo && act[0] == TEST && act[3] == m + 1;
                Node node = node(read, into, isDo ? 5 : isWhile ? 4 : 3, k, m + 1, parent, side);
                int[] test = isDo ? acts.get(m) : act;
                node.a = test[1];
                node.b = test[2];
                read.owner[m] = node;
                if (isWhile) {
                    read.owner[k] = node;
                }
                node.bodies.add(new ArrayList<>());
                body(acts, read, node.bodies.get(0), isWhile ? k + 1 : k, m, m + 1, isDo ? m : k, node, 0, depth + 1);
                k = m + 1;
                continue;
            }
            int t = act[3];
            if (act[0] == TEST && t != b && t != c && t > k && t <= j) {
                int[] ahead = acts.get(t - 1);
                int e = ahead[3];
                boolean both = ahead[0] == GO && e > t && e <= j && e != b && e != c && t - 1 > k;
                Node node = node(read, into, both ? 2 : 1, k, both ? e : t, parent, side);
                node.a = act[1];
                node.b = act[2];
                read.owner[k] = node;
                node.bodies.add(new ArrayList<>());
                body(acts, read, node.bodies.get(0), k + 1, both ? t - 1 : t, b, c, node, 0, depth + 1);
                if (both) {
                    read.owner[t - 1] = node;
                    node.bodies.add(new ArrayList<>());
                    body(acts, read, node.bodies.get(1), t, e, b, c, node, 1, depth + 1);
                }
                k = node.behind;
                continue;
            }
            int kind = 0;
            if (act[0] == TEST || act[0] == GO) {
                kind = (t == b ? 6 : t == c ? 7 : 8) + (act[0] == TEST ? 3 : 0);
            }
            Node node = node(read, into, kind, k, k + 1, parent, side);
            node.actKind = act[0];
            node.a = act[1];
            node.b = act[2];
            node.c = t;
            read.owner[k] = node;
            k++;
        }
    }

    private static void text(List<Integer> into, List<Node> body) {
        into.add(body.size());
        for (Node node : body) {
            into.add(node.kind);
            if (node.kind == 0) {
                into.add(node.actKind);
            }
            if (node.kind != 3 && node.kind != 6 && node.kind != 7 && node.kind != 8) {
                into.add(node.a);
                into.add(node.b);
            }
            if (node.kind == 8 || node.kind == 11) {
                into.add(node.c);
            }
            for (List<Node> inner : node.bodies) {
                text(into, inner);
            }
        }
    }

    private boolean[] met(int r) {
        List<int[]> acts = routines.get(r);
        boolean[] met = new boolean[acts.size() + 1];
        met[0] = true;
        for (boolean more = true; more;) {
            more = false;
            for (int i = 0; i < acts.size(); i++) {
                int kind = acts.get(i)[0];
                int[] next = {kind == GO || kind == TEST ? acts.get(i)[3] : i, kind == GO || kind == DONE ? i : i + 1};
                for (int to : next) {
                    if (met[i] && !met[to]) {
                        met[to] = true;
                        more = true;
                    }
                }
            }
        }
        return met;
    }

    int told(int r, int i, int what) {
        if (no(r) || i < 0 || i >= routines.get(r).size() || what < 0 || what > 5) {
            return BAD;
        }
        if (what < 4) {
            return routines.get(r).get(i)[what];
        }
        if (!whole(r)) {
            return NONE;
        }
        return what == 4 ? read(r).owner[i].number : met(r)[i] ? 1 : 0;
    }

    int of(int r, int what) {
        if (no(r) || what < 0 || what > 7) {
            return BAD;
        }
        int n = routines.get(r).size();
        if (what == 0) {
            return n;
        }
        if (what == 1) {
            return whole(r) ? 1 : 0;
        }
        if (what == 2) {
            int q = 0;
            while (like(r, q) == 0) {
                q++;
            }
            return q;
        }
        if (!whole(r)) {
            return NONE;
        }
        Read read = read(r);
        int count = 0;
        switch (what) {
            case 3:
                return read.nodes.size();
            case 4:
                return (int) read.nodes.stream().filter(s -> s.kind == 8 || s.kind == 11).count();
            case 5:
                boolean[] met = met(r);
                for (int i = 0; i < n; i++) {
                    count += met[i] ? 0 : 1;
                }
                return count;
            case 6:
                return read.deepest;
            default:
                for (List<int[]> acts : routines) {
                    count += acts.stream().anyMatch(act -> act[0] == CALL && act[1] == r) ? 1 : 0;
                }
                return count;
        }
    }

    int statement(int r, int s, int what) {
        if (no(r) || what < 0 || what > 5) {
            return BAD;
        }
        if (!whole(r)) {
            return NO;
        }
        Read read = read(r);
        if (s < 0 || s >= read.nodes.size()) {
            return BAD;
        }
        Node node = read.nodes.get(s);
        int in = node.parent == null ? NONE : node.parent.number;
        return new int[] {node.kind, node.begin, node.behind, in, node.side, node.inside}[what];
    }

    int text(int r, int i) {
        if (no(r) || i < NONE) {
            return BAD;
        }
        if (!whole(r)) {
            return NO;
        }
        List<Integer> text = read(r).text;
        return i == NONE ? text.size() : i < text.size() ? text.get(i) : BAD;
    }

    int feed(int v) {
        if (tape.size() == 300) {
            return FULL;
        }
        tape.add(v);
        return tape.size();
    }

    int copy(int r) {
        if (no(r)) {
            return BAD;
        }
        if (!whole(r)) {
            return NO;
        }
        List<Integer> text = read(r).text;
        if (text.size() + tape.size() > 300) {
            return FULL;
        }
        tape.addAll(text);
        return tape.size();
    }

    private int at;

    private int number() {
        if (at == tape.size()) {
            throw new Wrong(1, at);
        }
        at++;
        return tape.get(at - 1);
    }

    /** Bounds are longs: Java 17.0.15 was seen to compile a test against all ints wrongly. */
    private int number(int fault, long low, long high) {
        int v = number();
        if (v < low || v > high) {
            throw new Wrong(fault, at - 1);
        }
        return v;
    }

    /** First the TAPE becomes a tree, without a thought of PLACES. */
    private List<Node> parsed(int depth, boolean inLoop) {
        if (depth > 61 && at < tape.size()) {
            throw new Wrong(2, at);
        }
        int many = number(3, 0, Integer.MAX_VALUE);
        List<Node> body = new ArrayList<>();
        for (int s = 0; s < many; s++) {
            Node node = new Node();
            node.kind = number(2, 0, 11);
            boolean ofLoop = node.kind == 6 || node.kind == 7 || node.kind == 9 || node.kind == 10;
            if (ofLoop && !inLoop) {
                throw new Wrong(5, at - 1);
            }
            if (node.kind == 0) {
                parsedAct(node);
            } else if (node.kind != 3 && (node.kind < 6 || node.kind > 8)) {
                node.a = number(4, 0, 3);
                node.b = number(4, 0, 5);
            }
            if (node.kind == 8 || node.kind == 11) {
                node.c = number(6, 0, Integer.MAX_VALUE);
            }
            int bodies = node.kind == 2 ? 2 : node.kind >= 1 && node.kind <= 5 ? 1 : 0;
            for (int i = 0; i < bodies; i++) {
                node.bodies.add(parsed(depth + 1, inLoop || node.kind >= 3));
            }
            body.add(node);
        }
        return body;
    }

    private void parsedAct(Node node) {
        node.actKind = number(4, 0, 5);
        switch (node.actKind) {
            case SAY:
                node.a = number();
                node.b = number(4, 0, 0);
                break;
            case ADD:
                node.a = number(4, 0, 3);
                node.b = number();
                break;
            case DONE:
                node.a = number(4, 0, 0);
                node.b = number(4, 0, 0);
                break;
            case CALL:
                node.a = number(4, 0, 11);
                node.b = number(4, 0, 0);
                break;
            default:
                throw new Wrong(4, at - 1);
        }
    }

    private static int size(List<Node> body) {
        int size = 0;
        for (Node node : body) {
            size += size(node);
        }
        return size;
    }

    private static int size(Node node) {
        int size = node.kind == 2 || node.kind == 4 ? 2 : 1;
        for (List<Node> body : node.bodies) {
            size += size(body);
        }
        return size;
    }

    /** All PLACES are known by sizes, so that nothing is put in later. */
    private static void written(List<int[]> acts, List<Node> body, int breakTo, int againTo) {
        for (Node node : body) {
            int here = acts.size();
            int behind = here + size(node);
            switch (node.kind) {
                case 0:
                    acts.add(new int[] {node.actKind, node.a, node.b, 0});
                    break;
                case 1:
                    acts.add(new int[] {TEST, node.a, node.b, behind});
                    written(acts, node.bodies.get(0), breakTo, againTo);
                    break;
                case 2:
                    acts.add(new int[] {TEST, node.a, node.b, here + 2 + size(node.bodies.get(0))});
                    written(acts, node.bodies.get(0), breakTo, againTo);
                    acts.add(new int[] {GO, 0, 0, behind});
                    written(acts, node.bodies.get(1), breakTo, againTo);
                    break;
                case 3:
                    written(acts, node.bodies.get(0), behind, here);
                    acts.add(new int[] {GO, 0, 0, here});
                    break;
                case 4:
                    acts.add(new int[] {TEST, node.a, node.b, behind});
                    written(acts, node.bodies.get(0), behind, here);
                    acts.add(new int[] {GO, 0, 0, here});
                    break;
                case 5:
                    written(acts, node.bodies.get(0), behind, behind - 1);
                    acts.add(new int[] {TEST, node.a, node.b, here});
                    break;
                case 6:
                case 7:
                case 8:
                    acts.add(new int[] {GO, 0, 0, node.kind == 6 ? breakTo : node.kind == 7 ? againTo : node.c});
                    break;
                default:
                    int to = node.kind == 9 ? breakTo : node.kind == 10 ? againTo : node.c;
                    acts.add(new int[] {TEST, node.a, node.b, to});
                    break;
            }
        }
    }

    int write() {
        if (routines.size() == 12) {
            return FULL;
        }
        at = 0;
        try {
            List<Node> tree = parsed(1, false);
            int size = size(tree);
            if (at < tape.size()) {
                throw new Wrong(7, at);
            }
            if (size > 60) {
                throw new Wrong(8, at);
            }
            List<int[]> acts = new ArrayList<>();
            written(acts, tree, NONE, NONE);
            if (acts.stream().anyMatch(act -> act[3] > size)) {
                throw new Wrong(9, at);
            }
            routines.add(acts);
            return routines.size() - 1;
        } catch (Wrong wrong) {
            faultPlace = wrong.place;
            return -10 - wrong.fault;
        } finally {
            tape.clear();
        }
    }

    int fault() {
        return faultPlace;
    }

    int clear() {
        int had = tape.size();
        tape.clear();
        return had;
    }

    int like(int r, int q) {
        if (no(r) || no(q)) {
            return BAD;
        }
        List<int[]> one = routines.get(r);
        List<int[]> other = routines.get(q);
        boolean alike = one.size() == other.size();
        for (int i = 0; alike && i < one.size(); i++) {
            alike = java.util.Arrays.equals(one.get(i), other.get(i));
        }
        return alike ? 1 : 0;
    }

    int set(int register, int v) {
        if (register < 0 || register > 3) {
            return BAD;
        }
        int was = registers[register];
        registers[register] = v;
        return was;
    }

    int run(int r, int limit) {
        if (no(r) || limit < 0 || limit > 10000) {
            return BAD;
        }
        if (!whole(r)) {
            return NO;
        }
        steps = 0;
        calls = 1;
        last = registers.clone();
        said.clear();
        int end = ends(r, limit, 1);
        return end == NONE ? 0 : end;
    }

    /** NONE: the ROUTINE is over, and its caller goes on. */
    private int ends(int r, int limit, int depth) {
        List<int[]> acts = routines.get(r);
        int k = 0;
        while (k < acts.size()) {
            if (steps == limit) {
                return 1;
            }
            steps++;
            int[] act = acts.get(k);
            k++;
            if (act[0] == SAY) {
                if (said.size() == 200) {
                    return 4;
                }
                said.add(act[1]);
            } else if (act[0] == ADD) {
                last[act[1]] += act[2];
            } else if (act[0] == DONE) {
                return NONE;
            } else if (act[0] == CALL) {
                if (no(act[1]) || !whole(act[1])) {
                    return 2;
                }
                if (depth == 8) {
                    return 3;
                }
                calls++;
                int end = ends(act[1], limit, depth + 1);
                if (end != NONE) {
                    return end;
                }
            } else if (act[0] == GO || leads(last[act[1]], act[2])) {
                k = act[3];
            }
        }
        return NONE;
    }

    private static boolean leads(int v, int b) {
        boolean[] even = {v == 0, v < 0, v > 0};
        return even[b / 2] == (b % 2 == 0);
    }

    int ran(int what) {
        switch (what) {
            case 0: return steps;
            case 1: return said.size();
            case 2: return calls;
            case 4: case 5: case 6: case 7: return last[what - 4];
            default: return BAD;
        }
    }

    int out(int i) {
        return i < 0 || i >= said.size() ? BAD : said.get(i);
    }
}
