import java.util.ArrayDeque;
import java.util.ArrayList;
import java.util.Comparator;
import java.util.List;
import java.util.NoSuchElementException;
import java.util.TreeSet;

/**
 * The document's words done again, slowly and in another way than in the class: trees of objects that
 * are melded by recursion and never changed, arcs chosen by trying all, and what a cost may be by trying costs.
 */
final class Model {
    static final int NONE = -1;

    /** A TREE, never changed. Its RANK is told from its shape. */
    static final class Tree {
        final int item;
        final Tree left;
        final Tree right;

        Tree(int item, Tree left, Tree right) {
            this.item = item;
            this.left = left;
            this.right = right;
        }
    }

    static final class Item {
        long key;
        int tag;
        int desk;
        boolean crossed;
        boolean gone;

        Item copy() {
            Item i = new Item();
            i.key = key;
            i.tag = tag;
            i.desk = desk;
            i.crossed = crossed;
            i.gone = gone;
            return i;
        }
    }

    static final class State {
        List<Item> items = new ArrayList<>();
        Tree[] tree = new Tree[6];
        List<long[]> log = new ArrayList<>();
        int turn = 0;
        int goneCrossed = 0;
        int[][] arcs = new int[20][];

        State copy() {
            State s = new State();
            for (Item i : items) s.items.add(i.copy());
            s.tree = tree.clone();
            s.log = new ArrayList<>(log);
            s.turn = turn;
            s.goneCrossed = goneCrossed;
            for (int a = 0; a < 20; a++) s.arcs[a] = arcs[a] == null ? null : arcs[a].clone();
            return s;
        }
    }

    private State s = new State();
    private long steps = 0;
    private final int[] refused = new int[6];
    private final State[] kept = new State[2];

    // ---- trees

    private static int rank(Tree t) {
        return t == null ? 0 : 1 + rank(t.right);
    }

    private static int size(Tree t) {
        return t == null ? 0 : 1 + size(t.left) + size(t.right);
    }

    private static int height(Tree t) {
        return t == null ? 0 : 1 + Math.max(height(t.left), height(t.right));
    }

    private boolean isLess(int a, int b) {
        long x = s.items.get(a).key;
        long y = s.items.get(b).key;
        return x != y ? x < y : a < b;
    }

    private static Tree settled(int item, Tree left, Tree right) {
        return rank(left) < rank(right) ? new Tree(item, right, left) : new Tree(item, left, right);
    }

    private Tree melded(Tree a, Tree b) {
        if (a == null) return b;
        if (b == null) return a;
        steps++;
        if (isLess(a.item, b.item)) return settled(a.item, a.left, melded(a.right, b));
        return settled(b.item, b.left, melded(b.right, a));
    }

    private static boolean holds(Tree t, int item) {
        return t != null && (t.item == item || holds(t.left, item) || holds(t.right, item));
    }

    private Tree cutFrom(Tree t, int item) {
        if (t.item == item) return melded(t.left, t.right);
        if (holds(t.left, item)) return settled(t.item, cutFrom(t.left, item), t.right);
        return settled(t.item, t.left, cutFrom(t.right, item));
    }

    private static void list(Tree t, List<Tree> into) {
        if (t == null) return;
        into.add(t);
        list(t.left, into);
        list(t.right, into);
    }

    private static List<Tree> all(Tree t) {
        List<Tree> out = new ArrayList<>();
        list(t, out);
        return out;
    }

    private static Tree find(Tree t, int item) {
        for (Tree x : all(t)) if (x.item == item) return x;
        return null;
    }

    private List<Integer> path(int item) {
        List<Integer> out = new ArrayList<>();
        Tree t = s.tree[s.items.get(item).desk];
        while (t.item != item) {
            out.add(0, t.item);
            t = holds(t.left, item) ? t.left : t.right;
        }
        return out;
    }

    private void enterInto(int item, int desk) {
        s.items.get(item).desk = desk;
        s.tree[desk] = melded(s.tree[desk], new Tree(item, null, null));
    }

    private int takeFrom(int desk) {
        Tree t = s.tree[desk];
        s.tree[desk] = melded(t.left, t.right);
        return t.item;
    }

    private void look() {
        for (int d = 0; d < 6; d++) {
            while (s.tree[d] != null && s.items.get(s.tree[d].item).crossed) {
                s.items.get(takeFrom(d)).gone = true;
                s.goneCrossed++;
            }
        }
    }

    private int dispatched(int desk) {
        int x = takeFrom(desk);
        s.items.get(x).gone = true;
        s.log.add(0, new long[] {x, s.items.get(x).key, desk});
        if (s.log.size() > 40) s.log.remove(40);
        look();
        return x;
    }

    private List<Integer> rounded(int n) {
        List<Integer> out = new ArrayList<>();
        for (int i = 0; i < n; i++) {
            int d = s.turn;
            s.turn = (s.turn + 1) % 6;
            if (s.tree[d] != null) out.add(dispatched(d));
        }
        return out;
    }

    private int parted(int desk, int other) {
        int x = takeFrom(desk);
        look();
        enterInto(x, other);
        look();
        return x;
    }

    private Tree gathered(List<Tree> row) {
        ArrayDeque<Tree> q = new ArrayDeque<>(row);
        while (q.size() > 1) {
            Tree a = q.removeFirst();
            Tree b = q.removeFirst();
            q.addLast(melded(a, b));
        }
        return q.isEmpty() ? null : q.getFirst();
    }

    private void relabel() {
        for (int d = 0; d < 6; d++) for (Tree t : all(s.tree[d])) s.items.get(t.item).desk = d;
    }

    private List<Integer> plain(int desk) {
        List<Integer> out = new ArrayList<>();
        for (Tree t : all(s.tree[desk])) if (!s.items.get(t.item).crossed) out.add(t.item);
        out.sort((a, b) -> isLess(a, b) ? -1 : a.equals(b) ? 0 : 1);
        return out;
    }

    /** For who makes the runs: the items that calls can be about. */
    List<Integer> itemsThere() {
        List<Integer> out = new ArrayList<>();
        for (int x = 0; x < s.items.size(); x++) if (there(x)) out.add(x);
        return out;
    }

    private boolean there(int item) {
        return item >= 0 && item < s.items.size() && !s.items.get(item).gone;
    }

    private static boolean in(long x, long from, long to) {
        return x >= from && x <= to;
    }

    private int refuse(int why) {
        refused[-why]++;
        return why;
    }

    // ---- calls that do something

    public int enter(int desk, int key, int tag) {
        if (!in(desk, 0, 5) || !in(key, -1_000_000_000, 1_000_000_000) || !in(tag, 0, 99)) return refuse(-1);
        if (s.items.size() == 300) return refuse(-5);
        Item i = new Item();
        i.key = key;
        i.tag = tag;
        s.items.add(i);
        enterInto(s.items.size() - 1, desk);
        look();
        return s.items.size() - 1;
    }

    public int take(int desk) {
        if (!in(desk, 0, 5)) return refuse(-1);
        return s.tree[desk] == null ? refuse(-3) : dispatched(desk);
    }

    public int round(int n) {
        return in(n, 1, 30) ? rounded(n).size() : refuse(-1);
    }

    private int cross(int item, boolean to) {
        if (!there(item)) return refuse(-2);
        if (s.items.get(item).crossed == to) return refuse(-4);
        s.items.get(item).crossed = to;
        look();
        return plain(s.items.get(item).desk).size();
    }

    public int cross(int item) {
        return cross(item, true);
    }

    public int uncross(int item) {
        return cross(item, false);
    }

    public int cut(int item) {
        if (!there(item)) return refuse(-2);
        Item i = s.items.get(item);
        i.gone = true;
        s.tree[i.desk] = cutFrom(s.tree[i.desk], item);
        look();
        return size(s.tree[i.desk]);
    }

    public int rekey(int item, int key) {
        if (!in(key, -1_000_000_000, 1_000_000_000)) return refuse(-1);
        if (!there(item)) return refuse(-2);
        Item i = s.items.get(item);
        if (i.key == key) return refuse(-4);
        s.tree[i.desk] = cutFrom(s.tree[i.desk], item);
        i.key = key;
        enterInto(item, i.desk);
        look();
        int n = 0;
        for (int x : plain(i.desk)) if (isLess(x, item)) n++;
        return n;
    }

    public int raise(int desk, int by) {
        if (!in(desk, 0, 5) || !in(by, -1_000_000, 1_000_000)) return refuse(-1);
        if (s.tree[desk] == null) return refuse(-3);
        for (Tree t : all(s.tree[desk])) s.items.get(t.item).key += by;
        look();
        return size(s.tree[desk]);
    }

    public int meld(int desk, int other) {
        if (!in(desk, 0, 5) || !in(other, 0, 5) || desk == other) return refuse(-1);
        if (s.tree[other] == null) return refuse(-3);
        long before = steps;
        s.tree[desk] = melded(s.tree[desk], s.tree[other]);
        s.tree[other] = null;
        relabel();
        int n = (int) (steps - before);
        look();
        return n;
    }

    public int part(int desk, int other, int n) {
        if (!in(desk, 0, 5) || !in(other, 0, 5) || desk == other || !in(n, 1, 50)) return refuse(-1);
        if (plain(desk).size() < n) return refuse(-3);
        int last = NONE;
        for (int i = 0; i < n; i++) last = parted(desk, other);
        return last;
    }

    private void staying(Tree t, long key, List<Tree> stay, List<Integer> go) {
        if (t == null) return;
        if (s.items.get(t.item).key > key) {
            stay.add(t);
            return;
        }
        go.add(t.item);
        staying(t.left, key, stay, go);
        staying(t.right, key, stay, go);
    }

    public int split(int desk, int other, int key) {
        if (!in(desk, 0, 5) || !in(other, 0, 5) || desk == other) return refuse(-1);
        List<Tree> stay = new ArrayList<>();
        List<Integer> go = new ArrayList<>();
        staying(s.tree[desk], key, stay, go);
        if (go.isEmpty()) return refuse(-3);
        s.tree[desk] = gathered(stay);
        go.sort((a, b) -> isLess(a, b) ? -1 : a.equals(b) ? 0 : 1);
        for (int x : go) enterInto(x, other);
        look();
        return go.size();
    }

    public int gather(int desk) {
        if (!in(desk, 0, 5)) return refuse(-1);
        List<Tree> row = new ArrayList<>();
        for (Tree t : s.tree) if (t != null) row.add(t);
        if (row.isEmpty()) return refuse(-3);
        long before = steps;
        s.tree = new Tree[6];
        s.tree[desk] = gathered(row);
        relabel();
        int n = (int) (steps - before);
        look();
        return n;
    }

    public int even() {
        for (int n = 0; ; n++) {
            int most = 0;
            int fewest = 0;
            for (int d = 0; d < 6; d++) {
                if (plain(d).size() > plain(most).size()) most = d;
                if (plain(d).size() < plain(fewest).size()) fewest = d;
            }
            if (plain(most).size() < plain(fewest).size() + 2) return n;
            parted(most, fewest);
        }
    }

    public int arc(int from, int to, int cost) {
        if (!in(from, 0, 7) || !in(to, 0, 7) || from == to || !in(cost, 0, 1_000_000)) return refuse(-1);
        for (int a = 0; a < 20; a++) {
            if (s.arcs[a] == null) {
                s.arcs[a] = new int[] {from, to, cost};
                return a;
            }
        }
        return refuse(-5);
    }

    private boolean isArc(int arc) {
        return in(arc, 0, 19) && s.arcs[arc] != null;
    }

    public int unarc(int arc) {
        if (!isArc(arc)) return refuse(-2);
        s.arcs[arc] = null;
        return count(3);
    }

    public int price(int arc, int cost) {
        if (!in(cost, 0, 1_000_000)) return refuse(-1);
        if (!isArc(arc)) return refuse(-2);
        int was = s.arcs[arc][2];
        if (was == cost) return refuse(-4);
        s.arcs[arc][2] = cost;
        return was;
    }

    public boolean keep(int k) {
        if (!in(k, 0, 1)) return false;
        kept[k] = s.copy();
        return true;
    }

    public boolean again(int k) {
        if (!in(k, 0, 1) || kept[k] == null) return false;
        s = kept[k].copy();
        return true;
    }

    // ---- questions

    private Item known(int item) {
        if (!there(item)) throw new NoSuchElementException();
        return s.items.get(item);
    }

    public long key(int item) {
        return known(item).key;
    }

    public int item(int item, int what) {
        Item i = known(item);
        Tree t = find(s.tree[i.desk], item);
        List<Integer> path = path(item);
        switch (what) {
            case 0: return i.tag;
            case 1: return i.desk;
            case 2: return i.crossed ? 1 : 0;
            case 3: return rank(t);
            case 4: return t.left == null ? NONE : t.left.item;
            case 5: return t.right == null ? NONE : t.right.item;
            case 6: return path.isEmpty() ? NONE : path.get(0);
            case 7: return path.size();
            case 8: return size(t);
            default: return NONE;
        }
    }

    public int desk(int desk, int what) {
        if (!in(desk, 0, 5)) return NONE;
        Tree t = s.tree[desk];
        int like = 0;
        int leaves = 0;
        int heavy = 0;
        for (Tree x : all(t)) {
            if (rank(x.left) == rank(x.right)) like++;
            if (x.left == null && x.right == null) leaves++;
            if (size(x.right) > size(x.left)) heavy++;
        }
        switch (what) {
            case 0: return t == null ? NONE : t.item;
            case 1: return plain(desk).size();
            case 2: return size(t) - plain(desk).size();
            case 3: return rank(t);
            case 4: return height(t);
            case 5: return rank(t);
            case 6: return like;
            case 7: return leaves;
            case 8: return heavy;
            default: return NONE;
        }
    }

    public int along(int desk, int i, int what) {
        if (!in(desk, 0, 5) || !in(what, 0, 1) || i < 0) return NONE;
        List<Integer> row = new ArrayList<>();
        for (Tree t = s.tree[desk]; t != null; t = what == 0 ? t.right : t.left) row.add(t.item);
        return i < row.size() ? row.get(i) : NONE;
    }

    public int ranked(int desk, int rank) {
        if (!in(desk, 0, 5) || rank < 1) return NONE;
        int n = 0;
        for (Tree t : all(s.tree[desk])) if (rank(t) == rank) n++;
        return n;
    }

    public int least(int desk, int k) {
        if (!in(desk, 0, 5) || k < 0 || k >= plain(desk).size()) return NONE;
        return plain(desk).get(k);
    }

    public int below(int desk, long key) {
        if (!in(desk, 0, 5)) return NONE;
        int n = 0;
        for (int x : plain(desk)) if (s.items.get(x).key < key) n++;
        return n;
    }

    public long keys(int desk, int what) {
        if (!in(desk, 0, 5)) return Long.MIN_VALUE;
        List<Long> row = new ArrayList<>();
        for (int x : plain(desk)) row.add(s.items.get(x).key);
        if (what == 0) return row.stream().mapToLong(Long::longValue).sum();
        if (what == 1 && row.size() > 0) return row.get(row.size() - 1);
        if (what == 2 && row.size() > 1) {
            long gap = 0;
            for (int i = 1; i < row.size(); i++) gap = Math.max(gap, row.get(i) - row.get(i - 1));
            return gap;
        }
        return what == 3 ? new TreeSet<>(row).size() : Long.MIN_VALUE;
    }

    public long pair(int desk, int other, int k, int what) {
        if (!in(desk, 0, 5) || !in(other, 0, 5) || !in(k, 0, 39) || !in(what, 0, 2)) return Long.MIN_VALUE;
        List<long[]> pairs = new ArrayList<>();
        int i = 0;
        for (int x : plain(desk)) {
            int j = 0;
            for (int y : plain(other)) pairs.add(new long[] {s.items.get(x).key + s.items.get(y).key, x, y, i, j++});
            i++;
        }
        pairs.sort(Comparator.<long[]>comparingLong(p -> p[0]).thenComparingLong(p -> p[3]).thenComparingLong(p -> p[4]));
        return k < pairs.size() ? pairs.get(k)[what] : Long.MIN_VALUE;
    }

    public int above(int item, int i) {
        known(item);
        List<Integer> path = path(item);
        return in(i, 0, path.size() - 1) ? path.get(i) : NONE;
    }

    public int melding(int desk, int other, int what) {
        if (!in(desk, 0, 5) || !in(other, 0, 5) || desk == other || s.tree[other] == null) return NONE;
        long before = steps;
        Tree t = melded(s.tree[desk], s.tree[other]);
        long needed = steps - before;
        steps = before;
        return what == 0 ? (int) needed : what == 1 ? rank(t) : NONE;
    }

    public int taking(int desk) {
        if (!in(desk, 0, 5) || s.tree[desk] == null) return NONE;
        long before = steps;
        State real = s;
        s = real.copy();
        dispatched(desk);
        s = real;
        int needed = (int) (steps - before);
        steps = before;
        return needed;
    }

    public int coming(int k) {
        long before = steps;
        State real = s;
        s = real.copy();
        List<Integer> row = rounded(60);
        s = real;
        steps = before;
        return in(k, 0, row.size() - 1) ? row.get(k) : NONE;
    }

    public int tagged(int tag, int what) {
        int best = NONE;
        int most = 0;
        for (int d = 0; d < 6; d++) {
            int n = 0;
            for (int x : plain(d)) if (s.items.get(x).tag == tag) n++;
            if (n > most) {
                best = d;
                most = n;
            }
        }
        return best == NONE || !in(what, 0, 1) ? NONE : what == 0 ? best : most;
    }

    public long log(int i, int what) {
        return in(i, 0, s.log.size() - 1) && in(what, 0, 2) ? s.log.get(i)[what] : Long.MIN_VALUE;
    }

    // ---- arcs: all choices of an arc into each place, looked at from the root

    private int reachBy(int root, int bits) {
        int reach = 1 << root;
        for (int n = 0; n < 8; n++) {
            for (int a = 0; a < 20; a++) {
                if ((bits >> a & 1) == 1 && (reach >> s.arcs[a][0] & 1) == 1) reach |= 1 << s.arcs[a][1];
            }
        }
        return reach;
    }

    private int allArcs() {
        int bits = 0;
        for (int a = 0; a < 20; a++) bits |= s.arcs[a] != null ? 1 << a : 0;
        return bits;
    }

    private void choices(int root, int reach, int place, int bits, List<Integer> out) {
        if (place == 8) {
            if (reachBy(root, bits) == reach) out.add(bits);
        } else if (place == root || (reach >> place & 1) == 0) {
            choices(root, reach, place + 1, bits, out);
        } else {
            for (int a = 0; a < 20; a++) {
                if (s.arcs[a] != null && s.arcs[a][1] == place) choices(root, reach, place + 1, bits | 1 << a, out);
            }
        }
    }

    private long costOf(int bits) {
        long cost = 0;
        for (int a = 0; a < 20; a++) cost += (bits >> a & 1) == 1 ? s.arcs[a][2] : 0;
        return cost;
    }

    /** All TREES OUT of a PLACE, the BEST first. */
    private List<Integer> trees(int root) {
        List<Integer> out = new ArrayList<>();
        choices(root, reachBy(root, allArcs()), 0, 0, out);
        out.sort(Comparator.<Integer>comparingLong(this::costOf).thenComparingInt(b -> b));
        return out;
    }

    private int firstOf(List<Integer> trees) {
        int best = trees.get(0);
        for (int b : trees) if (costOf(b) < costOf(best) || costOf(b) == costOf(best) && b < best) best = b;
        return best;
    }

    public int best(int place, int what) {
        if (!in(place, 0, 7)) return -2;
        int bits = trees(place).get(0);
        return what == 0 ? (int) costOf(bits) : what == 1 ? bits : what == 2 ? reachBy(place, bits) : -2;
    }

    public int by(int root, int place) {
        if (!in(root, 0, 7)) return NONE;
        int bits = trees(root).get(0);
        for (int a = 0; a < 20; a++) if ((bits >> a & 1) == 1 && s.arcs[a][1] == place) return a;
        return NONE;
    }

    /** The greatest d from 0 to 10,000,000 with which the same tree is the BEST (it is with 0). */
    public int dearer(int root, int arc) {
        if (!in(root, 0, 7) || !isArc(arc)) return NONE;
        List<Integer> trees = trees(root);
        int bits = trees.get(0);
        if ((bits >> arc & 1) == 0) return NONE;
        int was = s.arcs[arc][2];
        int low = 0;
        int high = 10_000_000;
        while (low < high) {
            int mid = (low + high + 1) / 2;
            s.arcs[arc][2] = was + mid;
            if (firstOf(trees) == bits) low = mid;
            else high = mid - 1;
        }
        s.arcs[arc][2] = was;
        return low;
    }

    public int without(int root, int arc) {
        if (!in(root, 0, 7) || !isArc(arc)) return NONE;
        int cost = best(root, 0);
        int reach = best(root, 2);
        int[] real = s.arcs[arc];
        s.arcs[arc] = null;
        int answer = best(root, 2) == reach ? best(root, 0) - cost : 10_000_000;
        s.arcs[arc] = real;
        return answer;
    }

    /** The least d from 0 on with which the arc is in the BEST; 10,000,000 less is more than any tree costs. */
    public int cheaper(int root, int arc) {
        if (!in(root, 0, 7) || !isArc(arc)) return NONE;
        List<Integer> trees = trees(root);
        int was = s.arcs[arc][2];
        int low = 0;
        int high = 10_000_000;
        while (low < high) {
            int mid = (low + high) / 2;
            s.arcs[arc][2] = was - mid;
            if ((firstOf(trees) >> arc & 1) == 1) high = mid;
            else low = mid + 1;
        }
        s.arcs[arc][2] = was;
        return low;
    }

    public int second(int root, int what) {
        if (!in(root, 0, 7) || !in(what, 0, 1)) return NONE;
        List<Integer> trees = trees(root);
        if (trees.size() < 2) return NONE;
        return what == 0 ? (int) costOf(trees.get(1)) : trees.get(1);
    }

    public int center(int what) {
        int place = 0;
        for (int p = 1; p < 8; p++) {
            int more = Integer.bitCount(best(p, 2)) - Integer.bitCount(best(place, 2));
            if (more > 0 || more == 0 && best(p, 0) < best(place, 0)) place = p;
        }
        return what == 0 ? place : what == 1 ? best(place, 0) : NONE;
    }

    public int arcs(int arc, int what) {
        return isArc(arc) && in(what, 0, 2) ? s.arcs[arc][what] : NONE;
    }

    public int count(int what) {
        int there = 0;
        int plain = 0;
        for (Item i : s.items) {
            there += i.gone ? 0 : 1;
            plain += i.gone || i.crossed ? 0 : 1;
        }
        switch (what) {
            case 0: return s.items.size();
            case 1: return there;
            case 2: return plain;
            case 3: return Integer.bitCount(allArcs());
            case 4: return (int) steps;
            case 5: return s.turn;
            case 6: return s.log.size();
            case 7: return s.goneCrossed;
            default: return in(what, 8, 12) ? refused[what - 7] : NONE;
        }
    }
}
