import java.util.Arrays;
import java.util.NoSuchElementException;

/**
 * Desks of dispatch that can be melded, and the cheapest trees of arcs between places.
 * The terms (ITEM, DESK, RANK, MELD, STEP, ..) are those of the document.
 */
public final class SpineDesks {
    public static final int NONE = -1;

    private static final int DESKS = 6;
    private static final int ITEMS = 300;
    private static final int TAGS = 100;
    private static final int LOGS = 40;
    private static final int PAIRS = 40;
    private static final int PLACES = 8;
    private static final int ARCS = 20;
    private static final int KEPT = 2;

    private static final int MOST_KEY = 1_000_000_000;
    private static final int MOST_RAISE = 1_000_000;
    private static final int MOST_COST = 1_000_000;
    private static final int MOST_ROUND = 30;
    private static final int MOST_PARTED = 50;
    private static final int ROUND_ON_PAPER = 60;
    private static final int ENDLESS = 10_000_000;
    private static final long NO_LONG = Long.MIN_VALUE;
    private static final long NO_TREE = Long.MAX_VALUE;

    private static final int WRONG = -1;
    private static final int UNKNOWN = -2;
    private static final int TOO_FEW = -3;
    private static final int ALREADY = -4;
    private static final int NO_ROOM = -5;
    private static final int REASONS = 5;

    private final Hall hall;
    private final Hall[] keptHalls;
    private final Net net;
    private final Net[] keptNets;
    private final int[] refused;
    private final Rows rows;
    private final Search search;
    private Hall paper;

    /** Kept halls and the paper are made when first used: most objects need few of them. */
    public SpineDesks() {
        hall = new Hall();
        keptHalls = new Hall[KEPT];
        net = new Net();
        keptNets = new Net[KEPT];
        refused = new int[REASONS];
        rows = new Rows(hall);
        search = new Search(net);
    }

    // ---- calls that do something to desks

    public int enter(int desk, int key, int tag) {
        if (!isDesk(desk) || !isKey(key) || !isTag(tag)) {
            return refuse(WRONG);
        }
        if (hall.came >= ITEMS) {
            return refuse(NO_ROOM);
        }
        int x = hall.newItem(key, tag);
        hall.place(x, desk);
        hall.sweep();
        return x;
    }

    public int take(int desk) {
        if (!isDesk(desk)) {
            return refuse(WRONG);
        }
        if (hall.root[desk] == NONE) {
            return refuse(TOO_FEW);
        }
        return hall.dispatch(desk);
    }

    public int round(int n) {
        if (n < 1 || n > MOST_ROUND) {
            return refuse(WRONG);
        }
        int dispatched = 0;
        for (int i = 0; i < n; i++) {
            if (hall.callNext() != NONE) {
                dispatched++;
            }
        }
        return dispatched;
    }

    public int cross(int item) {
        return setCrossed(item, 1);
    }

    public int uncross(int item) {
        return setCrossed(item, 0);
    }

    public int cut(int item) {
        if (!hall.isThere(item)) {
            return refuse(UNKNOWN);
        }
        int desk = hall.deskOf[item];
        hall.cutOut(item);
        hall.sweep();
        return hall.allIn(desk);
    }

    public int rekey(int item, int key) {
        if (!isKey(key)) {
            return refuse(WRONG);
        }
        if (!hall.isThere(item)) {
            return refuse(UNKNOWN);
        }
        if (hall.keyOf[item] == key) {
            return refuse(ALREADY);
        }
        int desk = hall.deskOf[item];
        hall.cutOut(item);
        hall.keyOf[item] = key;
        hall.place(item, desk);
        hall.sweep();
        return hall.plainLess(desk, item);
    }

    public int raise(int desk, int by) {
        if (!isDesk(desk) || by < -MOST_RAISE || by > MOST_RAISE) {
            return refuse(WRONG);
        }
        if (hall.root[desk] == NONE) {
            return refuse(TOO_FEW);
        }
        hall.raiseAll(desk, by);
        hall.sweep();
        return hall.allIn(desk);
    }

    public int meld(int desk, int other) {
        if (!areTwoDesks(desk, other)) {
            return refuse(WRONG);
        }
        if (hall.root[other] == NONE) {
            return refuse(TOO_FEW);
        }
        int before = hall.steps;
        hall.meldInto(desk, other);
        int needed = hall.steps - before;
        hall.sweep();
        return needed;
    }

    public int part(int desk, int other, int n) {
        if (!areTwoDesks(desk, other) || n < 1 || n > MOST_PARTED) {
            return refuse(WRONG);
        }
        if (hall.plainIn(desk) < n) {
            return refuse(TOO_FEW);
        }
        int last = NONE;
        for (int i = 0; i < n; i++) {
            last = hall.moveLeast(desk, other);
        }
        return last;
    }

    public int split(int desk, int other, int key) {
        if (!areTwoDesks(desk, other)) {
            return refuse(WRONG);
        }
        int moved = rows.splitOff(desk, other, key);
        if (moved == 0) {
            return refuse(TOO_FEW);
        }
        hall.sweep();
        return moved;
    }

    public int gather(int desk) {
        if (!isDesk(desk)) {
            return refuse(WRONG);
        }
        int before = hall.steps;
        if (!rows.gatherDesks(desk)) {
            return refuse(TOO_FEW);
        }
        int needed = hall.steps - before;
        hall.sweep();
        return needed;
    }

    public int even() {
        return rows.evenDesks();
    }

    // ---- calls that do something to arcs

    public int arc(int from, int to, int cost) {
        if (!isPlace(from) || !isPlace(to) || from == to || !isCost(cost)) {
            return refuse(WRONG);
        }
        int a = net.firstFree();
        if (a == NONE) {
            return refuse(NO_ROOM);
        }
        net.from[a] = from;
        net.to[a] = to;
        net.cost[a] = cost;
        return a;
    }

    public int unarc(int arc) {
        if (!net.isThere(arc)) {
            return refuse(UNKNOWN);
        }
        net.from[arc] = NONE;
        return net.size();
    }

    public int price(int arc, int cost) {
        if (!isCost(cost)) {
            return refuse(WRONG);
        }
        if (!net.isThere(arc)) {
            return refuse(UNKNOWN);
        }
        int was = net.cost[arc];
        if (was == cost) {
            return refuse(ALREADY);
        }
        net.cost[arc] = cost;
        return was;
    }

    // ---- what is kept

    public boolean keep(int k) {
        if (k < 0 || k >= KEPT) {
            return false;
        }
        if (keptHalls[k] == null || keptNets[k] == null) {
            keptHalls[k] = new Hall();
            keptNets[k] = new Net();
        }
        keptHalls[k].copyFrom(hall);
        keptNets[k].copyFrom(net);
        return true;
    }

    public boolean again(int k) {
        if (k < 0 || k >= KEPT || keptHalls[k] == null || keptNets[k] == null) {
            return false;
        }
        hall.copyFrom(keptHalls[k]);
        net.copyFrom(keptNets[k]);
        return true;
    }

    // ---- questions about items and desks

    public long key(int item) throws NoSuchElementException {
        if (!hall.isThere(item)) {
            throw new NoSuchElementException("no such item");
        }
        return hall.keyOf[item];
    }

    public int item(int item, int what) throws NoSuchElementException {
        if (!hall.isThere(item)) {
            throw new NoSuchElementException("no such item");
        }
        switch (what) {
            case 0: return hall.tagOf[item];
            case 1: return hall.deskOf[item];
            case 2: return hall.crossed[item];
            case 3: return hall.rank[item];
            case 4: return hall.left[item];
            case 5: return hall.right[item];
            case 6: return hall.up[item];
            case 7: return hall.howManyAbove(item);
            case 8: return rows.walk(item);
            default: return NONE;
        }
    }

    public int desk(int desk, int what) {
        if (!isDesk(desk)) {
            return NONE;
        }
        switch (what) {
            case 0: return hall.root[desk];
            case 1: return hall.plainIn(desk);
            case 2: return hall.allIn(desk) - hall.plainIn(desk);
            case 3: return hall.rankOf(hall.root[desk]);
            case 4: return rows.height(desk);
            case 5: return rows.rightSpine(desk);
            case 6: return rows.balanced(desk);
            case 7: return rows.leaves(desk);
            case 8: return rows.rightHeavy(desk);
            default: return NONE;
        }
    }

    public int along(int desk, int i, int what) {
        if (!isDesk(desk) || i < 0 || what < 0 || what > 1) {
            return NONE;
        }
        int x = hall.root[desk];
        for (int n = 0; n < ITEMS && n < i && x != NONE; n++) {
            x = what == 0 ? hall.right[x] : hall.left[x];
        }
        return i < ITEMS ? x : NONE;
    }

    public int ranked(int desk, int rank) {
        if (!isDesk(desk) || rank < 1) {
            return NONE;
        }
        return hall.rankedIn(desk, rank);
    }

    public int least(int desk, int k) {
        if (!isDesk(desk) || k < 0) {
            return NONE;
        }
        int n = rows.sortPlain(desk);
        return k < n ? rows.one[k] : NONE;
    }

    public int below(int desk, long key) {
        return isDesk(desk) ? hall.plainBelow(desk, key) : NONE;
    }

    public long keys(int desk, int what) {
        if (!isDesk(desk)) {
            return NO_LONG;
        }
        switch (what) {
            case 0: return rows.sumOfKeys(desk);
            case 1: return rows.greatestKey(desk);
            case 2: return rows.greatestGap(desk);
            case 3: return rows.differentKeys(desk);
            default: return NO_LONG;
        }
    }

    public long pair(int desk, int other, int k, int what) {
        if (!isDesk(desk) || !isDesk(other) || k < 0 || k >= PAIRS || what < 0 || what > 2) {
            return NO_LONG;
        }
        return rows.pairAt(desk, other, k, what);
    }

    public int above(int item, int i) throws NoSuchElementException {
        if (!hall.isThere(item)) {
            throw new NoSuchElementException("no such item");
        }
        if (i < 0 || i >= ITEMS) {
            return NONE;
        }
        int x = hall.up[item];
        for (int n = 0; n < i && x != NONE; n++) {
            x = hall.up[x];
        }
        return x;
    }

    public int melding(int desk, int other, int what) {
        if (!areTwoDesks(desk, other) || hall.root[other] == NONE || what < 0 || what > 1) {
            return NONE;
        }
        Hall copy = onPaper();
        copy.meldInto(desk, other);
        return what == 0 ? copy.steps : copy.rankOf(copy.root[desk]);
    }

    public int taking(int desk) {
        if (!isDesk(desk) || hall.root[desk] == NONE) {
            return NONE;
        }
        Hall copy = onPaper();
        copy.dispatch(desk);
        return copy.steps;
    }

    public int coming(int k) {
        if (k < 0 || k >= ROUND_ON_PAPER) {
            return NONE;
        }
        Hall copy = onPaper();
        int ahead = k;
        for (int i = 0; i < ROUND_ON_PAPER; i++) {
            int x = copy.callNext();
            if (x != NONE && ahead == 0) {
                return x;
            }
            ahead -= x == NONE ? 0 : 1;
        }
        return NONE;
    }

    public int tagged(int tag, int what) {
        if (!isTag(tag) || what < 0 || what > 1) {
            return NONE;
        }
        int first = NONE;
        int most = 0;
        for (int d = 0; d < DESKS; d++) {
            int n = hall.plainWithTag(d, tag);
            if (n > most) {
                first = d;
                most = n;
            }
        }
        return what == 0 || first == NONE ? first : most;
    }

    public long log(int i, int what) {
        if (i < 0 || i >= hall.logSize()) {
            return NO_LONG;
        }
        int at = hall.logPlace(i);
        switch (what) {
            case 0: return hall.logItem[at];
            case 1: return hall.logKey[at];
            case 2: return hall.logDesk[at];
            default: return NO_LONG;
        }
    }

    // ---- questions about arcs

    public int best(int place, int what) {
        if (!isPlace(place) || what < 0 || what > 2) {
            return UNKNOWN;
        }
        search.seek(place, NONE, NONE);
        if (what == 2) {
            return search.reach;
        }
        return what == 0 ? search.costOf(search.first) : search.bitsOf(search.first);
    }

    public int by(int root, int place) {
        if (!isPlace(root) || !isPlace(place)) {
            return NONE;
        }
        search.seek(root, NONE, NONE);
        return search.arcInto(place);
    }

    public int dearer(int root, int arc) {
        if (!isPlace(root) || !net.isThere(arc)) {
            return NONE;
        }
        search.seek(root, NONE, NONE);
        if (!search.firstHas(arc)) {
            return NONE;
        }
        long with = search.first;
        int reach = search.reach;
        search.seek(root, arc, NONE);
        if (search.reach != reach) {
            return ENDLESS;
        }
        return search.mostStillBelow(with, search.first);
    }

    public int without(int root, int arc) {
        if (!isPlace(root) || !net.isThere(arc)) {
            return NONE;
        }
        search.seek(root, NONE, NONE);
        int with = search.costOf(search.first);
        int reach = search.reach;
        search.seek(root, arc, NONE);
        return search.reach == reach ? search.costOf(search.first) - with : ENDLESS;
    }

    public int cheaper(int root, int arc) {
        if (!isPlace(root) || !net.isThere(arc)) {
            return NONE;
        }
        search.seek(root, NONE, NONE);
        if (search.firstHas(arc)) {
            return 0;
        }
        long goal = search.first;
        search.seek(root, NONE, arc);
        return search.firstHas(arc) ? search.leastToPass(search.first, goal) : ENDLESS;
    }

    public int second(int root, int what) {
        if (!isPlace(root) || what < 0 || what > 1) {
            return NONE;
        }
        search.seek(root, NONE, NONE);
        if (search.next == NO_TREE) {
            return NONE;
        }
        return what == 0 ? search.costOf(search.next) : search.bitsOf(search.next);
    }

    public int center(int what) {
        if (what < 0 || what > 1) {
            return NONE;
        }
        int place = NONE;
        int most = 0;
        int least = 0;
        for (int p = 0; p < PLACES; p++) {
            search.seek(p, NONE, NONE);
            int reached = Integer.bitCount(search.reach);
            int cost = search.costOf(search.first);
            if (reached > most || reached == most && cost < least) {
                place = p;
                most = reached;
                least = cost;
            }
        }
        return what == 0 ? place : least;
    }

    public int arcs(int arc, int what) {
        if (!net.isThere(arc)) {
            return NONE;
        }
        switch (what) {
            case 0: return net.from[arc];
            case 1: return net.to[arc];
            case 2: return net.cost[arc];
            default: return NONE;
        }
    }

    public int count(int what) {
        switch (what) {
            case 0: return hall.came;
            case 1: return hall.allThere();
            case 2: return hall.plainThere();
            case 3: return net.size();
            case 4: return hall.steps;
            case 5: return hall.turn;
            case 6: return hall.logSize();
            case 7: return hall.swept;
            case 8: case 9: case 10: case 11: case 12: return refused[what - 8];
            default: return NONE;
        }
    }

    // ---- helpers of the face

    private static boolean isDesk(int desk) {
        return desk >= 0 && desk < DESKS;
    }

    private static boolean areTwoDesks(int desk, int other) {
        return isDesk(desk) && isDesk(other) && desk != other;
    }

    private static boolean isKey(int key) {
        return key >= -MOST_KEY && key <= MOST_KEY;
    }

    private static boolean isTag(int tag) {
        return tag >= 0 && tag < TAGS;
    }

    private static boolean isPlace(int place) {
        return place >= 0 && place < PLACES;
    }

    private static boolean isCost(int cost) {
        return cost >= 0 && cost <= MOST_COST;
    }

    private int refuse(int reason) {
        int at = -1 - reason;
        if (at >= 0 && at < REASONS) {
            refused[at]++;
        }
        return reason;
    }

    private int setCrossed(int item, int to) {
        if (!hall.isThere(item)) {
            return refuse(UNKNOWN);
        }
        if (hall.crossed[item] == to) {
            return refuse(ALREADY);
        }
        int desk = hall.deskOf[item];
        hall.crossed[item] = to;
        hall.sweep();
        return hall.plainIn(desk);
    }

    /** A copy of the desks to try a call on; its STEPS begin at 0. */
    private Hall onPaper() {
        if (paper == null) {
            paper = new Hall();
        }
        paper.copyFrom(hall);
        paper.steps = 0;
        return paper;
    }

    /** Items, their trees, the turn and the log: what keep() keeps, but for the arcs. */
    private static final class Hall {
        int came;
        int turn;
        int swept;
        int logged;
        int steps;
        final int[] root;
        final long[] keyOf;
        final int[] tagOf;
        final int[] deskOf;
        final int[] crossed;
        final int[] left;
        final int[] right;
        final int[] up;
        final int[] rank;
        final int[] logItem;
        final long[] logKey;
        final int[] logDesk;

        Hall() {
            root = new int[DESKS];
            Arrays.fill(root, NONE);
            keyOf = new long[ITEMS];
            tagOf = new int[ITEMS];
            deskOf = new int[ITEMS];
            crossed = new int[ITEMS];
            left = new int[ITEMS];
            right = new int[ITEMS];
            up = new int[ITEMS];
            rank = new int[ITEMS];
            logItem = new int[LOGS];
            logKey = new long[LOGS];
            logDesk = new int[LOGS];
        }

        /** STEPS stay as they are: they are neither kept nor had back. */
        void copyFrom(Hall h) {
            came = h.came;
            turn = h.turn;
            swept = h.swept;
            logged = h.logged;
            System.arraycopy(h.root, 0, root, 0, DESKS);
            System.arraycopy(h.keyOf, 0, keyOf, 0, came);
            System.arraycopy(h.tagOf, 0, tagOf, 0, came);
            System.arraycopy(h.deskOf, 0, deskOf, 0, came);
            System.arraycopy(h.crossed, 0, crossed, 0, came);
            System.arraycopy(h.left, 0, left, 0, came);
            System.arraycopy(h.right, 0, right, 0, came);
            System.arraycopy(h.up, 0, up, 0, came);
            System.arraycopy(h.rank, 0, rank, 0, came);
            System.arraycopy(h.logItem, 0, logItem, 0, LOGS);
            System.arraycopy(h.logKey, 0, logKey, 0, LOGS);
            System.arraycopy(h.logDesk, 0, logDesk, 0, LOGS);
        }

        boolean isThere(int x) {
            return x >= 0 && x < came && deskOf[x] != NONE;
        }

        /** The ITEM came, and is in the DESK, not CROSSED. */
        boolean isPlainIn(int x, int desk) {
            return deskOf[x] == desk && crossed[x] == 0;
        }

        boolean isLess(int a, int b) {
            return keyOf[a] < keyOf[b] || keyOf[a] == keyOf[b] && a < b;
        }

        int rankOf(int tree) {
            return tree == NONE ? 0 : rank[tree];
        }

        /** The caller has looked that there is room. */
        int newItem(int key, int tag) {
            int x = came;
            came++;
            keyOf[x] = key;
            tagOf[x] = tag;
            crossed[x] = 0;
            deskOf[x] = NONE;
            return x;
        }

        private void settle(int x) {
            int l = left[x] == NONE ? 0 : rank[left[x]];
            int r = right[x] == NONE ? 0 : rank[right[x]];
            if (l < r) {
                int tree = left[x];
                left[x] = right[x];
                right[x] = tree;
            }
            rank[x] = 1 + (l < r ? l : r);
        }

        /**
         * MELD of two TREES. On the way down 'up' holds the ITEM chosen before,
         * so that no row is needed to come back by.
         */
        int join(int one, int two) {
            int a = one;
            int b = two;
            int last = NONE;
            for (int n = 0; n < ITEMS && a != NONE && b != NONE; n++) {
                if (isLess(b, a)) {
                    int tree = a;
                    a = b;
                    b = tree;
                }
                up[a] = last;
                last = a;
                a = right[a];
                steps++;
            }
            int tree = a == NONE ? b : a;
            for (int n = 0; n < ITEMS && last != NONE; n++) {
                int before = up[last];
                right[last] = tree;
                if (tree != NONE) {
                    up[tree] = last;
                }
                settle(last);
                tree = last;
                last = before;
            }
            if (tree != NONE) {
                up[tree] = NONE;
            }
            return tree;
        }

        /** ENTERED: as a TREE of its own the ITEM is melded into the DESK's. */
        void place(int x, int desk) {
            left[x] = NONE;
            right[x] = NONE;
            up[x] = NONE;
            rank[x] = 1;
            deskOf[x] = desk;
            root[desk] = join(root[desk], x);
        }

        int takeRoot(int desk) {
            int x = root[desk];
            if (x != NONE) {
                root[desk] = join(left[x], right[x]);
                deskOf[x] = NONE;
            }
            return x;
        }

        void sweep() {
            for (int d = 0; d < DESKS; d++) {
                for (int n = 0; n < ITEMS && root[d] != NONE && crossed[root[d]] == 1; n++) {
                    takeRoot(d);
                    swept++;
                }
            }
        }

        int dispatch(int desk) {
            int x = takeRoot(desk);
            if (x != NONE) {
                int at = logged % LOGS;
                logItem[at] = x;
                logKey[at] = keyOf[x];
                logDesk[at] = desk;
                logged++;
                sweep();
            }
            return x;
        }

        int callNext() {
            int desk = turn;
            turn = desk + 1 < DESKS ? desk + 1 : 0;
            return dispatch(desk);
        }

        int moveLeast(int desk, int other) {
            int x = takeRoot(desk);
            sweep();
            if (x != NONE) {
                place(x, other);
            }
            sweep();
            return x;
        }

        void cutOut(int x) {
            int above = up[x];
            int tree = join(left[x], right[x]);
            if (above == NONE) {
                root[deskOf[x]] = tree;
            } else if (left[above] == x) {
                left[above] = tree;
            } else {
                right[above] = tree;
            }
            if (tree != NONE) {
                up[tree] = above;
            }
            deskOf[x] = NONE;
            for (int n = 0; n < ITEMS && above != NONE; n++) {
                settle(above);
                above = up[above];
            }
        }

        void raiseAll(int desk, int by) {
            for (int x = 0; x < came; x++) {
                if (deskOf[x] == desk) {
                    keyOf[x] += by;
                }
            }
        }

        void meldInto(int desk, int other) {
            root[desk] = join(root[desk], root[other]);
            root[other] = NONE;
            relabel(other, desk);
        }

        void relabel(int was, int desk) {
            for (int x = 0; x < came; x++) {
                if (deskOf[x] == was) {
                    deskOf[x] = desk;
                }
            }
        }

        int howManyAbove(int x) {
            int n = 0;
            for (int y = up[x]; y != NONE && n < ITEMS; y = up[y]) {
                n++;
            }
            return n;
        }

        int allIn(int desk) {
            int n = 0;
            for (int x = 0; x < came; x++) {
                n += deskOf[x] == desk ? 1 : 0;
            }
            return n;
        }

        int plainIn(int desk) {
            int n = 0;
            for (int x = 0; x < came; x++) {
                n += isPlainIn(x, desk) ? 1 : 0;
            }
            return n;
        }

        int plainLess(int desk, int item) {
            int n = 0;
            for (int x = 0; x < came; x++) {
                n += isPlainIn(x, desk) && isLess(x, item) ? 1 : 0;
            }
            return n;
        }

        int plainBelow(int desk, long limit) {
            int n = 0;
            for (int x = 0; x < came; x++) {
                n += isPlainIn(x, desk) && keyOf[x] < limit ? 1 : 0;
            }
            return n;
        }

        int plainWithTag(int desk, int tag) {
            int n = 0;
            for (int x = 0; x < came; x++) {
                n += isPlainIn(x, desk) && tagOf[x] == tag ? 1 : 0;
            }
            return n;
        }

        int rankedIn(int desk, int wanted) {
            int n = 0;
            for (int x = 0; x < came; x++) {
                n += deskOf[x] == desk && rank[x] == wanted ? 1 : 0;
            }
            return n;
        }

        int allThere() {
            int n = 0;
            for (int x = 0; x < came; x++) {
                n += deskOf[x] != NONE ? 1 : 0;
            }
            return n;
        }

        int plainThere() {
            int n = 0;
            for (int x = 0; x < came; x++) {
                n += deskOf[x] != NONE && crossed[x] == 0 ? 1 : 0;
            }
            return n;
        }

        int logSize() {
            return Math.min(logged, LOGS);
        }

        /** Where the i-th LOGGED stands, the latest first; i is below logSize(). */
        int logPlace(int i) {
            return (logged - 1 - i) % LOGS;
        }
    }

    /** Rows of ITEMS that are made once and used by every call that looks at many of them. */
    private static final class Rows {
        final Hall hall;
        final int[] one;
        final int[] two;
        final int[] stack;
        final int[] span;
        final int[] nextOf;

        Rows(Hall hall) {
            this.hall = hall;
            one = new int[ITEMS];
            two = new int[ITEMS];
            stack = new int[ITEMS];
            span = new int[ITEMS];
            nextOf = new int[PAIRS];
        }

        /** Puts a TREE's ITEMS in 'one', each ahead of all below it, LEFT ahead of RIGHT. */
        int walk(int tree) {
            int n = 0;
            int top = 0;
            if (tree != NONE) {
                stack[top++] = tree;
            }
            while (top > 0 && n < ITEMS) {
                int x = stack[--top];
                one[n++] = x;
                if (hall.right[x] != NONE && top < ITEMS) {
                    stack[top++] = hall.right[x];
                }
                if (hall.left[x] != NONE && top < ITEMS) {
                    stack[top++] = hall.left[x];
                }
            }
            return n;
        }

        int height(int desk) {
            int n = walk(hall.root[desk]);
            int most = 0;
            for (int i = 0; i < n; i++) {
                int x = one[i];
                span[x] = hall.up[x] == NONE ? 1 : span[hall.up[x]] + 1;
                most = Math.max(most, span[x]);
            }
            return most;
        }

        int rightSpine(int desk) {
            int n = 0;
            for (int x = hall.root[desk]; x != NONE && n < ITEMS; x = hall.right[x]) {
                n++;
            }
            return n;
        }

        int balanced(int desk) {
            int found = 0;
            for (int x = 0; x < hall.came; x++) {
                if (hall.deskOf[x] == desk && hall.rankOf(hall.left[x]) == hall.rankOf(hall.right[x])) {
                    found++;
                }
            }
            return found;
        }

        int leaves(int desk) {
            int found = 0;
            for (int x = 0; x < hall.came; x++) {
                if (hall.deskOf[x] == desk && hall.left[x] == NONE && hall.right[x] == NONE) {
                    found++;
                }
            }
            return found;
        }

        int rightHeavy(int desk) {
            int n = walk(hall.root[desk]);
            int found = 0;
            for (int i = n - 1; i >= 0; i--) {
                int x = one[i];
                int l = hall.left[x] == NONE ? 0 : span[hall.left[x]];
                int r = hall.right[x] == NONE ? 0 : span[hall.right[x]];
                span[x] = 1 + l + r;
                found += r > l ? 1 : 0;
            }
            return found;
        }

        /** Shell's way: the order is strict, so it needs not be a steady sort. */
        private void sort(int[] row, int n) {
            for (int gap = n / 2; gap > 0; gap /= 2) {
                for (int i = gap; i < n; i++) {
                    int x = row[i];
                    int at = i;
                    while (at >= gap && hall.isLess(x, row[at - gap])) {
                        row[at] = row[at - gap];
                        at -= gap;
                    }
                    row[at] = x;
                }
            }
        }

        private int sortInto(int[] row, int desk) {
            int n = 0;
            for (int x = 0; x < hall.came; x++) {
                if (hall.isPlainIn(x, desk)) {
                    row[n++] = x;
                }
            }
            sort(row, n);
            return n;
        }

        /** Puts a DESK's ITEMS that are not CROSSED in 'one', the least first. */
        int sortPlain(int desk) {
            return sortInto(one, desk);
        }

        long sumOfKeys(int desk) {
            long sum = 0;
            for (int x = 0; x < hall.came; x++) {
                sum += hall.isPlainIn(x, desk) ? hall.keyOf[x] : 0;
            }
            return sum;
        }

        long greatestKey(int desk) {
            int n = sortPlain(desk);
            return n > 0 ? hall.keyOf[one[n - 1]] : NO_LONG;
        }

        long greatestGap(int desk) {
            int n = sortPlain(desk);
            long most = NO_LONG;
            for (int i = 1; i < n; i++) {
                most = Math.max(most, hall.keyOf[one[i]] - hall.keyOf[one[i - 1]]);
            }
            return most;
        }

        long differentKeys(int desk) {
            int n = sortPlain(desk);
            int found = 0;
            for (int i = 0; i < n; i++) {
                found += i == 0 || hall.keyOf[one[i]] != hall.keyOf[one[i - 1]] ? 1 : 0;
            }
            return found;
        }

        /**
         * Of each ITEM of the one its next ITEM of the other is held; the k-th PAIR has none but
         * one of the k + 1 least of the one, as PAIRS with a lesser one come first.
         */
        long pairAt(int desk, int other, int k, int what) {
            int wide = Math.min(sortInto(one, desk), PAIRS);
            int deep = sortInto(two, other);
            Arrays.fill(nextOf, 0);
            int pick = pickPair(wide, deep);
            for (int n = 0; n < k && pick != NONE; n++) {
                nextOf[pick]++;
                pick = pickPair(wide, deep);
            }
            if (pick == NONE) {
                return NO_LONG;
            }
            if (what == 0) {
                return pairSum(pick);
            }
            return what == 1 ? one[pick] : two[nextOf[pick]];
        }

        private int pickPair(int wide, int deep) {
            int pick = NONE;
            for (int i = 0; i < wide; i++) {
                if (nextOf[i] < deep && (pick == NONE || pairSum(i) < pairSum(pick))) {
                    pick = i;
                }
            }
            return pick;
        }

        private long pairSum(int i) {
            return hall.keyOf[one[i]] + hall.keyOf[two[nextOf[i]]];
        }

        /** GATHERED: the n TREES in 'stack', which is a ring here. */
        private int gatherRow(int n) {
            int head = 0;
            for (int there = n; there > 1; there--) {
                int tree = hall.join(stack[head], stack[(head + 1) % ITEMS]);
                stack[(head + there) % ITEMS] = tree;
                head = (head + 2) % ITEMS;
            }
            return n > 0 ? stack[head] : NONE;
        }

        /** False, and nothing done, if all are empty. */
        boolean gatherDesks(int desk) {
            int n = 0;
            for (int d = 0; d < DESKS; d++) {
                if (hall.root[d] != NONE) {
                    stack[n++] = hall.root[d];
                }
            }
            if (n == 0) {
                return false;
            }
            Arrays.fill(hall.root, NONE);
            hall.root[desk] = gatherRow(n);
            for (int d = 0; d < DESKS; d++) {
                hall.relabel(d, desk);
            }
            return true;
        }

        /** How many went; if 0, nothing is done. */
        int splitOff(int desk, int other, int limit) {
            int n = walk(hall.root[desk]);
            int going = 0;
            int staying = 0;
            for (int i = 0; i < n; i++) {
                int x = one[i];
                if (hall.keyOf[x] <= limit) {
                    two[going++] = x;
                } else if (hall.up[x] == NONE || hall.keyOf[hall.up[x]] <= limit) {
                    stack[staying++] = x;
                }
            }
            if (going == 0) {
                return 0;
            }
            for (int i = 0; i < staying; i++) {
                hall.up[stack[i]] = NONE;
            }
            hall.root[desk] = gatherRow(staying);
            sort(two, going);
            for (int i = 0; i < going; i++) {
                hall.place(two[i], other);
            }
            return going;
        }

        /** PARTED changes no other number of ITEMS that are not CROSSED, so they are told once. */
        int evenDesks() {
            for (int d = 0; d < DESKS; d++) {
                span[d] = hall.plainIn(d);
            }
            int moved = 0;
            while (moved < ITEMS) {
                int most = 0;
                int fewest = 0;
                for (int d = 1; d < DESKS; d++) {
                    most = span[d] > span[most] ? d : most;
                    fewest = span[d] < span[fewest] ? d : fewest;
                }
                if (span[most] - span[fewest] < 2) {
                    return moved;
                }
                hall.moveLeast(most, fewest);
                span[most]--;
                span[fewest]++;
                moved++;
            }
            return moved;
        }
    }

    /** The ARCS; one that is not there comes FROM nowhere. */
    private static final class Net {
        final int[] from;
        final int[] to;
        final int[] cost;

        Net() {
            from = new int[ARCS];
            Arrays.fill(from, NONE);
            to = new int[ARCS];
            cost = new int[ARCS];
        }

        void copyFrom(Net n) {
            System.arraycopy(n.from, 0, from, 0, ARCS);
            System.arraycopy(n.to, 0, to, 0, ARCS);
            System.arraycopy(n.cost, 0, cost, 0, ARCS);
        }

        boolean isThere(int a) {
            return a >= 0 && a < ARCS && from[a] != NONE;
        }

        int firstFree() {
            for (int a = 0; a < ARCS; a++) {
                if (from[a] == NONE) {
                    return a;
                }
            }
            return NONE;
        }

        int size() {
            int n = 0;
            for (int a = 0; a < ARCS; a++) {
                n += from[a] != NONE ? 1 : 0;
            }
            return n;
        }
    }

    /**
     * Looks at the TREES OUT of a PLACE. With 20 ARCS there are at most some 1,458 of them, so each
     * is tried. COST and bits stand in one number (COST * 2^20 + bits): the least is the BEST.
     */
    private static final class Search {
        final Net net;
        final int[] into;
        int root;
        int banned;
        int forced;
        int reach;
        long first;
        long next;

        Search(Net net) {
            this.net = net;
            into = new int[PLACES];
        }

        /** Finds the BEST and the next one, without the ARC banned, with the ARC forced. */
        void seek(int root, int banned, int forced) {
            this.root = root;
            this.banned = banned;
            this.forced = forced;
            first = NO_TREE;
            next = NO_TREE;
            Arrays.fill(into, NONE);
            findReach();
            choose(0, 0);
        }

        private void findReach() {
            reach = 1 << root;
            for (int n = 0; n < PLACES; n++) {
                for (int a = 0; a < ARCS; a++) {
                    if (a != banned && net.from[a] != NONE && isReached(net.from[a])) {
                        reach |= 1 << net.to[a];
                    }
                }
            }
        }

        private boolean isReached(int place) {
            return (reach >> place & 1) == 1;
        }

        private void choose(int place, long weight) {
            if (weight >= next) {
                return;
            }
            if (place >= PLACES) {
                noteTree(weight);
                return;
            }
            if (place == root || !isReached(place)) {
                choose(place + 1, weight);
                return;
            }
            for (int a = 0; a < ARCS; a++) {
                if (mayLead(a, place)) {
                    into[place] = a;
                    choose(place + 1, weight + weightOf(a));
                    into[place] = NONE;
                }
            }
        }

        private void noteTree(long weight) {
            if (weight < first) {
                next = first;
                first = weight;
            } else {
                next = weight;
            }
        }

        private boolean mayLead(int a, int place) {
            if (net.from[a] == NONE || net.to[a] != place || a == banned || !isReached(net.from[a])) {
                return false;
            }
            if (forced != NONE && net.to[forced] == place && a != forced) {
                return false;
            }
            return !closesRing(net.from[a], place);
        }

        private boolean closesRing(int start, int place) {
            int p = start;
            for (int n = 0; n < PLACES && p != place && into[p] != NONE; n++) {
                p = net.from[into[p]];
            }
            return p == place;
        }

        private long weightOf(int a) {
            return ((long) net.cost[a] << ARCS) + (1L << a);
        }

        int costOf(long weight) {
            return (int) (weight >> ARCS);
        }

        int bitsOf(long weight) {
            return (int) (weight & (1L << ARCS) - 1);
        }

        boolean firstHas(int a) {
            return first != NO_TREE && (first >> a & 1) == 1;
        }

        int arcInto(int place) {
            for (int a = 0; a < ARCS; a++) {
                if (firstHas(a) && net.to[a] == place) {
                    return a;
                }
            }
            return NONE;
        }

        /** By how much at most the COST in a weight may grow to stay below a greater weight. */
        int mostStillBelow(long weight, long greater) {
            return (int) (greater - weight - 1 >> ARCS);
        }

        /** By how much at least the COST in a weight has to fall to be below a lesser weight. */
        int leastToPass(long weight, long lesser) {
            return (int) (weight - lesser >> ARCS) + 1;
        }
    }
}
