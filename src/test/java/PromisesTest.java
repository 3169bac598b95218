/** For each promise of the document answers worked out by hand: ordinary inputs, edges, wrong inputs. */
public final class PromisesTest {
    private static final int MIN = Integer.MIN_VALUE;
    private static final int MAX = Integer.MAX_VALUE;
    private static final long NO_LONG = Long.MIN_VALUE;
    private static int promise = 0;

    private static void due(String call, long got, long want) {
        Check.due("promise " + promise + ": " + call, got, want);
    }

    private static void due(String call, boolean got, boolean want) {
        Check.due("promise " + promise + ": " + call, got, want);
    }

    private static void dueThrow(String call, Check.Call c) {
        Check.dueThrow("promise " + promise + ": " + call, c);
    }

    /** A DESK 0 with KEYS as given, numbers from 0 on, TAG 0. */
    private static SpineDesks with(int... keys) {
        SpineDesks x = new SpineDesks();
        for (int key : keys) x.enter(0, key, 0);
        return x;
    }

    private static void newObject() {
        SpineDesks x = new SpineDesks();
        for (int what = 0; what < 13; what++) due("count(" + what + ")", x.count(what), 0);
        for (int d = 0; d < 6; d++) {
            due("root", x.desk(d, 0), -1);
            for (int what = 1; what < 9; what++) due("desk(" + d + ", " + what + ")", x.desk(d, what), 0);
        }
        for (int a = 0; a < 20; a++) due("arcs", x.arcs(a, 0), -1);
        for (int p = 0; p < 8; p++) due("best bits", x.best(p, 1), 0);
        due("again(0)", x.again(0), false);
        due("log(0, 0)", x.log(0, 0), NO_LONG);
        dueThrow("key(0)", () -> x.key(0));
        due("NONE", SpineDesks.NONE, -1);
    }

    private static void enter() {
        SpineDesks x = new SpineDesks();
        due("desk -1", x.enter(-1, 0, 0), -1);
        due("desk 6", x.enter(6, 0, 0), -1);
        due("key too small", x.enter(0, -1_000_000_001, 0), -1);
        due("key too great", x.enter(0, 1_000_000_001, 0), -1);
        due("tag -1", x.enter(0, 0, -1), -1);
        due("tag 100", x.enter(0, 0, 100), -1);
        due("refused", x.count(8), 6);
        due("none came", x.count(0), 0);
        due("least key", x.enter(5, -1_000_000_000, 99), 0);
        due("greatest key", x.enter(5, 1_000_000_000, 0), 1);
        due("tag", x.item(0, 0), 99);
        due("key", x.key(0), -1_000_000_000);
        due("root", x.desk(5, 0), 0);
        due("left of the root", x.item(0, 4), 1);
        for (int i = 2; i < 300; i++) due("enter " + i, x.enter(i % 6, i, 1), i);
        due("no room", x.enter(0, 0, 0), -5);
        due("can't be goes ahead of no room", x.enter(6, 0, 0), -1);
        x.take(5);
        due("a number is not given again", x.enter(0, 0, 0), -5);
        due("refused by -5", x.count(12), 2);
    }

    private static void likeKeys() {
        SpineDesks x = with(7, 7, 7);
        due("of like keys the less number", x.take(0), 0);
        due("then the next", x.take(0), 1);
        due("then the last", x.take(0), 2);
        SpineDesks y = with(5, 5);
        y.enter(1, 5, 0);
        due("meld", y.meld(1, 0), 1);
        due("the least number is the root", y.desk(1, 0), 0);
    }

    private static void take() {
        SpineDesks x = with(3, 1, 2);
        x.cross(2);
        due("take(0)", x.take(0), 1);
        due("the crossed one went behind it", x.desk(0, 0), 0);
        due("gone as crossed", x.count(7), 1);
        dueThrow("key(1)", () -> x.key(1));
        due("not called by turns", x.count(5), 0);
        due("logged", x.count(6), 1);
        due("take(0)", x.take(0), 0);
        due("empty", x.take(0), -3);
        due("take(-1)", x.take(-1), -1);
        due("take(6)", x.take(6), -1);
        due("refused by -3", x.count(10), 1);
        due("refused by -1", x.count(8), 2);
    }

    private static void round() {
        SpineDesks x = with(1, 2);
        x.enter(2, 5, 0);
        x.enter(5, 6, 0);
        due("round(0)", x.round(0), -1);
        due("round(31)", x.round(31), -1);
        due("round(-1)", x.round(MIN), -1);
        due("round(3)", x.round(3), 2);
        due("turn", x.count(5), 3);
        due("latest", x.log(0, 0), 2);
        due("before", x.log(1, 0), 0);
        due("round(30)", x.round(30), 2);
        due("turn", x.count(5), 3);
        due("log", x.log(0, 0), 1);
        due("log", x.log(1, 0), 3);
        due("nothing left", x.round(1), 0);
        due("turn", x.count(5), 4);
    }

    private static void crossing() {
        SpineDesks x = with(1, 2, 3, 4);
        due("cross(2)", x.cross(2), 3);
        due("stays", x.desk(0, 2), 1);
        due("again", x.cross(2), -4);
        due("cross(1)", x.cross(1), 2);
        due("root goes, and those behind it", x.cross(0), 1);
        due("root", x.desk(0, 0), 3);
        due("gone as crossed", x.count(7), 3);
        due("gone", x.cross(2), -2);
        due("never was", x.cross(4), -2);
        due("cross(-1)", x.cross(-1), -2);
        due("cross(max)", x.cross(MAX), -2);
        due("the last", x.cross(3), 0);
        due("empty", x.desk(0, 0), -1);
        due("refused by -2", x.count(9), 4);
        due("refused by -4", x.count(11), 1);
        due("no log of them", x.count(6), 0);
    }

    private static void uncross() {
        SpineDesks x = with(1, 2, 3);
        due("it is not", x.uncross(2), -4);
        x.cross(2);
        x.cross(1);
        due("uncross(2)", x.uncross(2), 2);
        due("item(2, 2)", x.item(2, 2), 0);
        due("item(1, 2)", x.item(1, 2), 1);
        x.take(0);
        due("gone", x.uncross(1), -2);
        due("gone", x.uncross(0), -2);
        due("uncross(-1)", x.uncross(-1), -2);
        due("uncross(3)", x.uncross(3), -2);
        due("root", x.desk(0, 0), 2);
    }

    private static void cut() {
        // 10 over 20 and 30 over 40: the left is cut, so the right comes to the left
        SpineDesks x = with(10, 20, 30, 40);
        due("left of the root", x.item(0, 4), 1);
        due("right of the root", x.item(0, 5), 2);
        due("its left", x.item(2, 4), 3);
        due("rank", x.item(0, 3), 2);
        due("cut(1)", x.cut(1), 3);
        due("exchanged", x.item(0, 4), 2);
        due("no right", x.item(0, 5), -1);
        due("rank", x.item(0, 3), 1);
        due("gone", x.cut(1), -2);
        due("cut(-1)", x.cut(-1), -2);
        due("cut(4)", x.cut(4), -2);
        x.enter(0, 50, 0);
        int steps = x.count(4);
        x.cross(2);
        due("the root, and the crossed one below it", x.cut(0), 2);
        due("root", x.desk(0, 0), 3);
        due("30 over 50, then 40 over 50", x.count(4), steps + 2);
        due("gone as crossed", x.count(7), 1);
        x.cross(4);
        due("a crossed one", x.cut(4), 1);
        due("that was cut, not swept", x.count(7), 1);
        due("no log", x.count(6), 0);
        due("the last", x.cut(3), 0);
    }

    private static void cutGoesAllTheWayUp() {
        // 1 over 2 (4, 5) and 3 (6, 7); 5 goes, so the rank of 2 falls, and 1 has to exchange 2 and 3
        SpineDesks x = with(2, 4, 5);
        x.enter(1, 3, 0);
        x.enter(1, 6, 0);
        x.enter(1, 7, 0);
        x.enter(2, 1, 0);
        x.meld(2, 0);
        x.meld(2, 1);
        due("left of 1", x.item(6, 4), 0);
        due("right of 1", x.item(6, 5), 3);
        due("rank of 1", x.item(6, 3), 3);
        due("cut the right below the left", x.cut(2), 6);
        due("left of 1", x.item(6, 4), 3);
        due("right of 1", x.item(6, 5), 0);
        due("rank of 1", x.item(6, 3), 2);
        due("rank of 2", x.item(0, 3), 1);
        due("above 4", x.above(1, 0), 0);
        due("above 2", x.above(0, 0), 6);
    }

    private static void rekey() {
        SpineDesks x = with(10, 20, 30);
        due("rekey(2, 5)", x.rekey(2, 5), 0);
        due("root", x.desk(0, 0), 2);
        due("rekey(2, 20)", x.rekey(2, 20), 2);
        due("as it is", x.rekey(2, 20), -4);
        due("too great", x.rekey(2, 1_000_000_001), -1);
        due("too small", x.rekey(2, -1_000_000_001), -1);
        due("no such, and a wrong key", x.rekey(9, 1_000_000_001), -1);
        due("no such", x.rekey(9, 0), -2);
        due("rekey(-1, 0)", x.rekey(-1, 0), -2);
        x.cross(2);
        due("a crossed one", x.rekey(2, 15), 1);
        due("is so still", x.item(2, 2), 1);
        due("its tag", x.item(2, 0), 0);
        due("a crossed one to the root", x.rekey(2, 1), 0);
        dueThrow("it is gone", () -> x.key(2));
        due("gone as crossed", x.count(7), 1);
        due("rekey(0, 25)", x.rekey(0, 25), 1);
        x.cross(0);
        due("a root away, no look between", x.rekey(1, 30), 0);
        due("the crossed one went behind all", x.count(1), 1);
        due("the edges", x.rekey(1, 1_000_000_000), 0);
        due("the edges", x.rekey(1, -1_000_000_000), 0);
    }

    private static void raise() {
        SpineDesks x = with(10, 20);
        x.enter(1, 5, 0);
        x.cross(1);
        due("raise(0, 1000000)", x.raise(0, 1_000_000), 2);
        due("key(0)", x.key(0), 1_000_010);
        due("crossed, too", x.key(1), 1_000_020);
        due("the other desk", x.key(2), 5);
        due("raise(0, -1000000)", x.raise(0, -1_000_000), 2);
        due("key(0)", x.key(0), 10);
        due("raise(0, 0)", x.raise(0, 0), 2);
        due("too much", x.raise(0, 1_000_001), -1);
        due("too little", x.raise(0, -1_000_001), -1);
        due("raise(6, 0)", x.raise(6, 0), -1);
        due("raise(-1, 0)", x.raise(-1, 0), -1);
        due("empty", x.raise(2, 1), -3);
        x.uncross(1);
        x.rekey(0, 1_000_000_000);
        x.rekey(1, 1_000_000_000);
        x.raise(0, 1_000_000);
        due("beyond what enter() takes", x.key(0), 1_001_000_000L);
        due("sum", x.keys(0, 0), 2_002_000_000L);
        due("log has the key of then", x.take(0) + x.log(0, 1), 1_001_000_000L);
    }

    private static void meld() {
        SpineDesks x = with(10, 30, 50);
        for (int key : new int[] {20, 40, 60}) x.enter(1, key, 0);
        due("melding", x.melding(0, 1, 0), 3);
        int steps = x.count(4);
        // right spines 10, 50 and 20, 60: 10, 20, 50 are chosen
        due("meld(0, 1)", x.meld(0, 1), 3);
        due("steps", x.count(4), steps + 3);
        due("six", x.desk(0, 1), 6);
        due("the other is empty", x.desk(1, 0), -1);
        due("desk of 5", x.item(5, 1), 0);
        due("left of 10: 20, exchanged", x.item(0, 4), 3);
        due("right of 10: 30", x.item(0, 5), 1);
        due("left of 20", x.item(3, 4), 4);
        due("right of 20", x.item(3, 5), 2);
        due("left of 50: 60", x.item(2, 4), 5);
        due("into an empty one", x.meld(4, 0), 0);
        due("it has them", x.desk(4, 1), 6);
        due("the other is empty", x.meld(4, 0), -3);
        due("alike", x.meld(4, 4), -1);
        due("meld(6, 4)", x.meld(6, 4), -1);
        due("meld(4, 6)", x.meld(4, 6), -1);
        due("meld(-1, 0)", x.meld(-1, 0), -1);
        due("wrong goes ahead of empty", x.meld(0, 0), -1);
    }

    private static void part() {
        SpineDesks x = with(1, 2, 3, 4, 5);
        x.cross(1);
        x.cross(3);
        due("too many", x.part(0, 1, 4), -3);
        due("part(0, 1, 2)", x.part(0, 1, 2), 2);
        due("crossed ones went between", x.count(7), 2);
        due("first", x.least(1, 0), 0);
        due("second", x.least(1, 1), 2);
        due("left", x.desk(0, 0), 4);
        due("alike", x.part(0, 0, 1), -1);
        due("n 0", x.part(0, 1, 0), -1);
        due("n 51", x.part(0, 1, 51), -1);
        due("part(6, 0, 1)", x.part(6, 0, 1), -1);
        due("part(0, -1, 1)", x.part(0, -1, 1), -1);
        due("empty", x.part(3, 0, 1), -3);
        SpineDesks y = new SpineDesks();
        for (int i = 0; i < 50; i++) y.enter(3, -i, 0);
        due("fifty", y.part(3, 2, 50), 0);
        due("all went", y.desk(3, 0), -1);
        due("a chain of lefts: each was entered behind the ones before it", y.desk(2, 1), 50);
    }

    private static void split() {
        SpineDesks x = with(10, 20, 30, 40, 50);
        x.enter(1, 25, 0);
        x.cross(1);
        due("none up to it", x.split(0, 1, 9), -3);
        due("split(0, 1, 30)", x.split(0, 1, 30), 3);
        due("root", x.desk(1, 0), 0);
        due("the crossed one came along", x.item(1, 1), 1);
        due("is so still", x.item(1, 2), 1);
        due("not gone", x.count(7), 0);
        due("others stay", x.desk(0, 1), 2);
        due("root", x.desk(0, 0), 3);
        due("all of them", x.split(0, 2, MAX), 2);
        due("empty", x.split(0, 2, MAX), -3);
        due("alike", x.split(0, 0, 1), -1);
        due("split(0, 6, 1)", x.split(0, 6, 1), -1);
        due("split(-1, 0, 1)", x.split(-1, 0, 1), -1);
        due("any number", x.split(1, 0, MIN), -3);
        // 20 is crossed and the root of what stays: first it is gathered with 30, 10 is entered, then it goes
        SpineDesks y = with(10, 20, 30);
        y.cross(1);
        int steps = y.count(4);
        due("10 goes", y.split(0, 1, 10), 1);
        due("20 over 30", y.count(4), steps + 1);
        due("20 is gone behind it", y.count(7), 1);
        due("root of what stays", y.desk(0, 0), 2);
        due("all that go are told, crossed ones too", crossedOneSplitOff(), 2);
    }

    private static int crossedOneSplitOff() {
        SpineDesks x = with(10, 20, 30);
        x.cross(1);
        return x.split(0, 1, 20);
    }

    private static void splitGathers() {
        // root 0(1): left 1(10) with left 2(20), right 3(30); right 4(5) with left 5(15), right 6(25)
        SpineDesks x = with(1);
        x.enter(1, 10, 0);
        x.enter(1, 20, 0);
        x.enter(1, 30, 0);
        x.enter(2, 5, 0);
        x.enter(2, 15, 0);
        x.enter(2, 25, 0);
        due("meld", x.meld(0, 1), 1);
        due("meld", x.meld(0, 2), 1);
        due("left", x.item(0, 4), 1);
        due("right", x.item(0, 5), 4);
        int steps = x.count(4);
        // 10 (20, 30), 15, 25 stay. 10 and 15: 10, then 15 over 30. 25 and that: 10, then 15 over 30, 25,
        // whose rank is 2, so it comes to the left of 10. 1, then 5 are entered: one step more.
        due("split(0, 3, 5)", x.split(0, 3, 5), 2);
        due("five stay", x.desk(0, 1), 5);
        due("two went", x.desk(3, 1), 2);
        due("root", x.desk(0, 0), 1);
        due("steps", x.count(4) - steps, 2 + 2 + 1);
        due("left of 10", x.item(1, 4), 5);
        due("right of 10", x.item(1, 5), 2);
        due("left of 15", x.item(5, 4), 3);
        due("right of 15", x.item(5, 5), 6);
    }

    private static void gather() {
        SpineDesks x = new SpineDesks();
        due("all are empty", x.gather(0), -3);
        due("gather(6)", x.gather(6), -1);
        due("gather(-1)", x.gather(-1), -1);
        x.enter(1, 10, 0);
        due("one alone moves", x.gather(4), 0);
        due("it is there", x.item(0, 1), 4);
        due("root", x.desk(4, 0), 0);
        x.enter(0, 20, 0);
        x.enter(2, 5, 0);
        // 20 and 5: 5 over 20; then 10 and that: 5 over 20, 10
        due("gather(3)", x.gather(3), 2);
        due("root", x.desk(3, 0), 2);
        due("left", x.item(2, 4), 1);
        due("right", x.item(2, 5), 0);
        due("the others are empty", x.desk(4, 0) + x.desk(0, 0) + x.desk(2, 0), -3);
        due("into itself", x.gather(3), 0);
        due("desk", x.item(1, 1), 3);
    }

    private static void gatherTwoByTwo() {
        SpineDesks x = new SpineDesks();
        for (int d = 0; d < 6; d++) x.enter(d, d + 1, 0);
        // 1 over 2, 3 over 4, 5 over 6; 1 over 2, 3; 5 over 6 and that: 1, then 3 over 4, 5, which comes to the left
        due("gather(5)", x.gather(5), 3 + 1 + 2);
        due("left of 1", x.item(0, 4), 2);
        due("right of 1", x.item(0, 5), 1);
        due("left of 3", x.item(2, 4), 3);
        due("right of 3", x.item(2, 5), 4);
        due("left of 5", x.item(4, 4), 5);
        due("count", x.desk(5, 1), 6);
    }

    private static void even() {
        SpineDesks x = with(1, 2, 3, 4, 5, 6, 7, 8);
        due("even()", x.even(), 6);
        due("desk 0", x.desk(0, 1), 2);
        due("desk 1", x.desk(1, 1), 2);
        due("desk 5", x.desk(5, 1), 1);
        due("least of 1", x.least(1, 0), 0);
        due("next of 1", x.least(1, 1), 5);
        due("so already", x.even(), 0);
        SpineDesks y = with(1, 2, 3);
        y.cross(1);
        y.cross(2);
        due("crossed ones are not told", y.even(), 0);
        SpineDesks z = with(1, 2);
        due("even() with empty desks", z.even(), 1);
        due("to the first with fewest", z.item(0, 1), 1);
        due("an empty hall", new SpineDesks().even(), 0);
    }

    private static void arc() {
        SpineDesks x = new SpineDesks();
        due("from -1", x.arc(-1, 0, 0), -1);
        due("from 8", x.arc(8, 0, 0), -1);
        due("to -1", x.arc(0, -1, 0), -1);
        due("to 8", x.arc(0, 8, 0), -1);
        due("alike", x.arc(3, 3, 0), -1);
        due("cost -1", x.arc(0, 1, -1), -1);
        due("cost 1000001", x.arc(0, 1, 1_000_001), -1);
        due("cost 0", x.arc(0, 7, 0), 0);
        due("cost 1000000", x.arc(7, 0, 1_000_000), 1);
        for (int a = 2; a < 20; a++) due("arc " + a, x.arc(0, 7, a), a);
        due("no room", x.arc(0, 7, 0), -5);
        due("wrong goes ahead", x.arc(0, 0, 0), -1);
        x.unarc(11);
        x.unarc(4);
        due("the least first", x.arc(1, 2, 3), 4);
        due("then the other", x.arc(1, 2, 3), 11);
        due("no room", x.arc(1, 2, 3), -5);
        due("arcs", x.count(3), 20);
    }

    private static void unarc() {
        SpineDesks x = new SpineDesks();
        x.arc(0, 1, 5);
        x.arc(0, 1, 5);
        due("unarc(0)", x.unarc(0), 1);
        due("gone", x.unarc(0), -2);
        due("unarc(-1)", x.unarc(-1), -2);
        due("unarc(20)", x.unarc(20), -2);
        due("unarc(2)", x.unarc(2), -2);
        due("unarc(1)", x.unarc(1), 0);
        due("refused by -2", x.count(9), 4);
    }

    private static void price() {
        SpineDesks x = new SpineDesks();
        x.arc(0, 1, 5);
        due("price(0, 9)", x.price(0, 9), 5);
        due("so already", x.price(0, 9), -4);
        due("price(0, 0)", x.price(0, 0), 9);
        due("price(0, 1000000)", x.price(0, 1_000_000), 0);
        due("too dear", x.price(0, 1_000_001), -1);
        due("below 0", x.price(0, -1), -1);
        due("no such", x.price(1, 3), -2);
        due("no such, and wrong", x.price(1, -3), -1);
        due("cost", x.arcs(0, 2), 1_000_000);
    }

    private static void keepAndAgain() {
        SpineDesks x = with(1, 2, 3);
        x.arc(0, 1, 5);
        x.cross(2);
        x.round(2);
        due("keep(2)", x.keep(2), false);
        due("keep(-1)", x.keep(-1), false);
        due("keep(1)", x.keep(1), true);
        due("nothing kept", x.again(0), false);
        due("again(2)", x.again(2), false);
        due("again(-1)", x.again(-1), false);
        x.take(0);
        x.enter(3, 9, 9);
        x.round(5);
        x.price(0, 7);
        x.arc(3, 4, 1);
        x.cross(77);
        int steps = x.count(4);
        due("gone as crossed", x.count(7), 1);
        due("again(1)", x.again(1), true);
        due("came", x.count(0), 3);
        due("there", x.count(1), 2);
        due("not crossed", x.count(2), 1);
        due("arcs", x.count(3), 1);
        due("steps are not had back", x.count(4), steps);
        due("turn", x.count(5), 2);
        due("log", x.count(6), 1);
        due("log(0, 0)", x.log(0, 0), 0);
        due("gone as crossed", x.count(7), 0);
        due("refused are not had back", x.count(9), 1);
        due("cost", x.arcs(0, 2), 5);
        due("crossed", x.item(2, 2), 1);
        due("a number again", x.enter(0, 0, 0), 3);
        due("keep(0)", x.keep(0), true);
        due("again(1)", x.again(1), true);
        due("as it was kept there", x.count(0), 3);
        due("again(0)", x.again(0), true);
        due("as it was kept there", x.count(0), 4);
        due("keep(1)", x.keep(1), true);
        due("again(1)", x.again(1), true);
        due("kept anew", x.count(0), 4);
    }

    private static void key() {
        SpineDesks x = with(4);
        due("key(0)", x.key(0), 4);
        dueThrow("key(1)", () -> x.key(1));
        dueThrow("key(-1)", () -> x.key(-1));
        dueThrow("key(max)", () -> x.key(MAX));
        dueThrow("key(300)", () -> x.key(300));
        x.take(0);
        dueThrow("gone", () -> x.key(0));
    }

    private static void item() {
        SpineDesks x = new SpineDesks();
        x.enter(3, 5, 42);
        x.enter(3, 7, 0);
        x.enter(3, 9, 0);
        x.cross(1);
        long[] root = {42, 3, 0, 2, 1, 2, -1, 0, 3};
        long[] leaf = {0, 3, 1, 1, -1, -1, 0, 1, 1};
        for (int what = 0; what < 9; what++) {
            due("item(0, " + what + ")", x.item(0, what), root[what]);
            due("item(1, " + what + ")", x.item(1, what), leaf[what]);
        }
        due("another what", x.item(0, 9), -1);
        due("another what", x.item(0, -1), -1);
        dueThrow("item(3, 0)", () -> x.item(3, 0));
        dueThrow("item(3, 99)", () -> x.item(3, 99));
        dueThrow("item(-1, 0)", () -> x.item(-1, 0));
        x.cut(2);
        dueThrow("gone", () -> x.item(2, 0));
    }

    private static void desk() {
        // a chain of lefts
        SpineDesks x = with(5, 4, 3, 2, 1);
        long[] chain = {4, 5, 0, 1, 5, 1, 1, 1, 0};
        for (int what = 0; what < 9; what++) due("desk(0, " + what + ")", x.desk(0, what), chain[what]);
        // 0(1): left 1(2), right 2(3) with left 3(4), right 4(5)
        SpineDesks y = with(1, 2, 3, 4);
        due("right has more", y.desk(0, 8), 1);
        due("of like rank", y.desk(0, 6), 3);
        y.cross(3);
        due("crossed", y.desk(0, 2), 1);
        due("not crossed", y.desk(0, 1), 3);
        due("two along right", y.desk(0, 5), 2);
        due("rank", y.desk(0, 3), 2);
        due("height", y.desk(0, 4), 3);
        due("leaves", y.desk(0, 7), 2);
        due("another what", y.desk(0, 9), -1);
        due("another what", y.desk(0, -1), -1);
        due("desk(6, 1)", y.desk(6, 1), -1);
        due("desk(-1, 1)", y.desk(-1, 1), -1);
        due("an empty root", y.desk(1, 0), -1);
    }

    private static void along() {
        SpineDesks x = with(1, 2, 3, 4);
        due("along(0, 0, 0)", x.along(0, 0, 0), 0);
        due("along(0, 1, 0)", x.along(0, 1, 0), 2);
        due("along(0, 2, 0)", x.along(0, 2, 0), -1);
        due("along(0, 0, 1)", x.along(0, 0, 1), 0);
        due("along(0, 1, 1)", x.along(0, 1, 1), 1);
        due("along(0, 2, 1)", x.along(0, 2, 1), -1);
        due("along(0, -1, 0)", x.along(0, -1, 0), -1);
        due("along(0, max, 0)", x.along(0, MAX, 0), -1);
        due("along(0, 0, 2)", x.along(0, 0, 2), -1);
        due("along(0, 0, -1)", x.along(0, 0, -1), -1);
        due("along(6, 0, 0)", x.along(6, 0, 0), -1);
        due("along(-1, 0, 0)", x.along(-1, 0, 0), -1);
        due("along(1, 0, 0)", x.along(1, 0, 0), -1);
        SpineDesks y = new SpineDesks();
        for (int i = 0; i < 300; i++) y.enter(0, -i, 0);
        due("the end of a long chain", y.along(0, 299, 1), 0);
        due("beyond it", y.along(0, 300, 1), -1);
    }

    private static void ranked() {
        SpineDesks x = with(1, 2, 3);
        due("ranked(0, 1)", x.ranked(0, 1), 2);
        due("ranked(0, 2)", x.ranked(0, 2), 1);
        due("ranked(0, 3)", x.ranked(0, 3), 0);
        due("ranked(0, max)", x.ranked(0, MAX), 0);
        due("ranked(0, 0)", x.ranked(0, 0), -1);
        due("ranked(0, -1)", x.ranked(0, -1), -1);
        due("ranked(6, 1)", x.ranked(6, 1), -1);
        due("ranked(-1, 1)", x.ranked(-1, 1), -1);
        due("an empty one", x.ranked(1, 1), 0);
        x.cross(1);
        due("crossed, too", x.ranked(0, 1), 2);
    }

    private static void least() {
        SpineDesks x = with(1, 5, 3, 3, 9);
        x.cross(4);
        x.cross(2);
        due("least(0, 0)", x.least(0, 0), 0);
        due("least(0, 1)", x.least(0, 1), 3);
        due("least(0, 2)", x.least(0, 2), 1);
        due("least(0, 3)", x.least(0, 3), -1);
        due("least(0, -1)", x.least(0, -1), -1);
        due("least(0, max)", x.least(0, MAX), -1);
        due("least(6, 0)", x.least(6, 0), -1);
        due("least(-1, 0)", x.least(-1, 0), -1);
        x.uncross(2);
        due("of like keys the less number", x.least(0, 1), 2);
    }

    private static void below() {
        SpineDesks x = with(1, 5, 3, 3, 9);
        x.cross(2);
        due("below(0, 3)", x.below(0, 3), 1);
        due("below(0, 4)", x.below(0, 4), 2);
        due("below(0, most)", x.below(0, Long.MAX_VALUE), 4);
        due("below(0, least)", x.below(0, Long.MIN_VALUE), 0);
        due("beyond int", x.below(0, 5_000_000_000L), 4);
        due("an empty one", x.below(1, 0), 0);
        due("below(6, 0)", x.below(6, 0), -1);
        due("below(-1, 0)", x.below(-1, 0), -1);
    }

    private static void keys() {
        SpineDesks x = with(1, 5, 3, 3, 20, 90);
        x.cross(5);
        due("all together", x.keys(0, 0), 32);
        due("greatest", x.keys(0, 1), 20);
        due("gap", x.keys(0, 2), 15);
        due("different", x.keys(0, 3), 4);
        due("another what", x.keys(0, 4), NO_LONG);
        due("another what", x.keys(0, -1), NO_LONG);
        due("keys(6, 0)", x.keys(6, 0), NO_LONG);
        due("keys(-1, 0)", x.keys(-1, 0), NO_LONG);
        due("empty", x.keys(1, 0), 0);
        due("empty", x.keys(1, 1), NO_LONG);
        due("empty", x.keys(1, 2), NO_LONG);
        due("empty", x.keys(1, 3), 0);
        x.enter(1, -7, 0);
        due("one", x.keys(1, 0), -7);
        due("one", x.keys(1, 1), -7);
        due("one", x.keys(1, 2), NO_LONG);
        due("one", x.keys(1, 3), 1);
        x.enter(1, -7, 0);
        due("two alike", x.keys(1, 2), 0);
        SpineDesks y = new SpineDesks();
        for (int i = 0; i < 200; i++) y.enter(2, 1_000_000_000, 0);
        due("a sum beyond int", y.keys(2, 0), 200_000_000_000L);
        y.enter(2, -1_000_000_000, 0);
        due("a gap beyond what int tells", y.keys(2, 2), 2_000_000_000L);
    }

    private static void pair() {
        SpineDesks x = with(1, 2);
        x.enter(1, 10, 0);
        x.enter(1, 11, 0);
        x.enter(1, 99, 0);
        x.cross(4);
        long[][] rows = {{11, 0, 2}, {12, 0, 3}, {12, 1, 2}, {13, 1, 3}};
        for (int k = 0; k < 4; k++) for (int w = 0; w < 3; w++) due("pair(0, 1, " + k + ", " + w + ")", x.pair(0, 1, k, w), rows[k][w]);
        due("no fifth", x.pair(0, 1, 4, 0), NO_LONG);
        due("the other way", x.pair(1, 0, 1, 1), 2);
        due("with itself", x.pair(0, 0, 0, 0), 2);
        due("both orders", x.pair(0, 0, 1, 1) * 10 + x.pair(0, 0, 2, 1), 1);
        due("k -1", x.pair(0, 1, -1, 0), NO_LONG);
        due("k 40", x.pair(0, 1, 40, 0), NO_LONG);
        due("what 3", x.pair(0, 1, 0, 3), NO_LONG);
        due("what -1", x.pair(0, 1, 0, -1), NO_LONG);
        due("desk 6", x.pair(6, 1, 0, 0), NO_LONG);
        due("other -1", x.pair(0, -1, 0, 0), NO_LONG);
        due("an empty one", x.pair(0, 2, 0, 0), NO_LONG);
        due("an empty one", x.pair(2, 0, 0, 0), NO_LONG);
        SpineDesks y = new SpineDesks();
        for (int i = 0; i < 60; i++) y.enter(i % 2, i < 2 ? 0 : 50, 0);
        due("39 of many", y.pair(0, 1, 39, 0), 50);
        due("39: the first of the others", y.pair(0, 1, 39, 1), 20);
        due("39", y.pair(0, 1, 39, 2), 1);
        due("k 40 of many", y.pair(0, 1, 40, 0), NO_LONG);
        SpineDesks z = with(1_000_000_000);
        z.raise(0, 1_000_000);
        due("a sum beyond int", z.pair(0, 0, 0, 0), 2_002_000_000L);
        SpineDesks v = with(2_000, -1_000_000_000);
        for (int i = 0; i < 200; i++) v.raise(0, -1_000_000);
        due("a sum beyond int, below 0", v.pair(0, 0, 0, 0), -2_400_000_000L);
    }

    private static void above() {
        SpineDesks x = with(3, 2, 1);
        due("above(0, 0)", x.above(0, 0), 1);
        due("above(0, 1)", x.above(0, 1), 2);
        due("above(0, 2)", x.above(0, 2), -1);
        due("above(0, -1)", x.above(0, -1), -1);
        due("above(0, max)", x.above(0, MAX), -1);
        due("the root", x.above(2, 0), -1);
        dueThrow("above(3, 0)", () -> x.above(3, 0));
        dueThrow("above(-1, 0)", () -> x.above(-1, 0));
        x.take(0);
        dueThrow("gone", () -> x.above(2, 0));
        due("a new root", x.above(1, 0), -1);
    }

    private static void melding() {
        SpineDesks x = with(10, 30, 50);
        for (int key : new int[] {20, 40, 60}) x.enter(1, key, 0);
        int steps = x.count(4);
        due("steps", x.melding(0, 1, 0), 3);
        due("rank", x.melding(0, 1, 1), 2);
        due("into an empty one", x.melding(2, 0, 0), 0);
        due("its rank", x.melding(2, 0, 1), 2);
        due("an empty other", x.melding(0, 2, 0), -1);
        due("alike", x.melding(0, 0, 0), -1);
        due("what 2", x.melding(0, 1, 2), -1);
        due("what -1", x.melding(0, 1, -1), -1);
        due("melding(6, 0, 0)", x.melding(6, 0, 0), -1);
        due("melding(0, -1, 0)", x.melding(0, -1, 0), -1);
        due("steps on paper do not count", x.count(4), steps);
        due("nothing was done", x.desk(1, 1), 3);
        due("nothing is refused", x.count(8) + x.count(10), 0);
    }

    private static void taking() {
        SpineDesks x = with(1, 2, 3, 4);
        // 1 over 2 and 3 (4)
        int steps = x.count(4);
        due("2 over 3", x.taking(0), 1);
        x.cross(1);
        due("2 is crossed, and goes: no step", x.taking(0), 1);
        x.enter(0, 9, 0);
        due("9 is below 3", x.taking(0), 1);
        x.cross(2);
        due("3 is crossed, too: 4 over 9", x.taking(0), 2);
        x.uncross(1);
        due("2 stays, and 3 below it", x.taking(0), 1);
        due("steps on paper do not count", x.count(4), steps + 2);
        due("an empty one", x.taking(1), -1);
        due("taking(6)", x.taking(6), -1);
        due("taking(-1)", x.taking(-1), -1);
        due("nothing was done", x.count(1), 5);
        due("no log", x.count(6), 0);
    }

    private static void coming() {
        SpineDesks x = with(1, 2, 3);
        x.enter(4, 0, 0);
        x.cross(1);
        x.round(1);
        due("crossed went", x.desk(0, 0), 2);
        due("coming(0)", x.coming(0), 3);
        due("coming(1)", x.coming(1), 2);
        due("coming(2)", x.coming(2), -1);
        due("coming(-1)", x.coming(-1), -1);
        due("coming(60)", x.coming(60), -1);
        due("nothing was done", x.count(5), 1);
        SpineDesks y = new SpineDesks();
        for (int i = 0; i < 72; i++) y.enter(i % 6, i, 0);
        due("the last of 60", y.coming(59), 59);
        due("not more", y.coming(60), -1);
        SpineDesks z = new SpineDesks();
        for (int i = 0; i < 12; i++) z.enter(3, i, 0);
        due("ten turns of a desk", z.coming(9), 9);
        due("no eleventh", z.coming(10), -1);
    }

    private static void tagged() {
        SpineDesks x = new SpineDesks();
        x.enter(1, 1, 99);
        x.enter(2, 1, 99);
        x.enter(2, 2, 99);
        x.enter(3, 1, 99);
        x.enter(3, 2, 99);
        due("the first of like ones", x.tagged(99, 0), 2);
        due("how many", x.tagged(99, 1), 2);
        x.cross(2);
        due("not crossed", x.tagged(99, 0), 3);
        x.cross(4);
        due("the first with 1", x.tagged(99, 0), 1);
        due("how many", x.tagged(99, 1), 1);
        due("no item has it", x.tagged(0, 0), -1);
        due("no item has it", x.tagged(0, 1), -1);
        due("tag 100", x.tagged(100, 0), -1);
        due("tag -1", x.tagged(-1, 0), -1);
        due("what 2", x.tagged(99, 2), -1);
        due("what -1", x.tagged(99, -1), -1);
    }

    private static void log() {
        SpineDesks x = new SpineDesks();
        for (int i = 0; i < 45; i++) x.enter(i % 6, 100 + i, 0);
        x.round(30);
        due("thirty", x.count(6), 30);
        due("the first is the last", x.log(29, 0), 0);
        due("no more", x.log(30, 0), NO_LONG);
        x.round(15);
        due("the latest", x.log(0, 0), 44);
        due("its key", x.log(0, 1), 144);
        due("its desk", x.log(0, 2), 2);
        due("the fortieth", x.log(39, 0), 5);
        due("the last 40", x.log(40, 0), NO_LONG);
        due("the last 40", x.count(6), 40);
        due("log(-1, 0)", x.log(-1, 0), NO_LONG);
        due("what 3", x.log(0, 3), NO_LONG);
        due("what -1", x.log(0, -1), NO_LONG);
    }

    /** 0 to 1, 2 by 10, 10; 1 to 2 and back by 1, 1: two trees of cost 11, of like cost. */
    private static SpineDesks twoWays() {
        SpineDesks x = new SpineDesks();
        x.arc(0, 1, 10);
        x.arc(1, 2, 1);
        x.arc(0, 2, 10);
        x.arc(2, 1, 1);
        return x;
    }

    private static void best() {
        SpineDesks x = twoWays();
        due("cost", x.best(0, 0), 11);
        due("least bits of like ones", x.best(0, 1), 3);
        due("places", x.best(0, 2), 7);
        due("out of 1", x.best(1, 0), 1);
        due("out of 1", x.best(1, 1), 2);
        due("out of 1", x.best(1, 2), 6);
        due("out of 7", x.best(7, 0), 0);
        due("out of 7", x.best(7, 1), 0);
        due("out of 7", x.best(7, 2), 128);
        due("best(8, 0)", x.best(8, 0), -2);
        due("best(-1, 0)", x.best(-1, 0), -2);
        due("what 3", x.best(0, 3), -2);
        due("what -1", x.best(0, -1), -2);
        due("nothing is refused", x.count(9), 0);
        SpineDesks y = new SpineDesks();
        for (int p = 0; p < 7; p++) y.arc(p, p + 1, 1_000_000);
        due("a long way", y.best(0, 0), 7_000_000);
        due("all arcs", y.best(0, 1), 127);
        due("all places", y.best(0, 2), 255);
    }

    private static void ring() {
        // a ring 1, 2, 3 of cost 1 each, into it by 100 (to 1), 50 (to 2), 70 (to 3)
        SpineDesks x = new SpineDesks();
        x.arc(1, 2, 1);
        x.arc(2, 3, 1);
        x.arc(3, 1, 1);
        x.arc(0, 1, 100);
        x.arc(0, 2, 50);
        x.arc(0, 3, 70);
        due("cost", x.best(0, 0), 52);
        due("bits", x.best(0, 1), 1 << 4 | 1 << 1 | 1 << 2);
        due("second", x.second(0, 0), 72);
        due("cheaper by 21: more bits", x.cheaper(0, 5), 21);
        due("without the way in", x.without(0, 4), 20);
    }

    private static void by() {
        SpineDesks x = twoWays();
        due("by(0, 1)", x.by(0, 1), 0);
        due("by(0, 2)", x.by(0, 2), 1);
        due("by(2, 1)", x.by(2, 1), 3);
        due("alike", x.by(1, 1), -1);
        due("not reached", x.by(1, 0), -1);
        due("by(8, 1)", x.by(8, 1), -1);
        due("by(0, 8)", x.by(0, 8), -1);
        due("by(-1, 1)", x.by(-1, 1), -1);
        due("by(0, -1)", x.by(0, -1), -1);
    }

    private static void dearer() {
        SpineDesks x = twoWays();
        // the next is of like cost with more bits: not by 1
        due("dearer(0, 0)", x.dearer(0, 0), 0);
        due("not in it", x.dearer(0, 2), -1);
        x.price(3, 4);
        due("dearer(0, 0)", x.dearer(0, 0), 3);
        due("dearer(0, 1)", x.dearer(0, 1), 3);
        due("not by as much: fewer bits", dearerWithFewerBits(), 4);
        due("no other way", x.dearer(1, 1), 10_000_000);
        due("dearer(8, 0)", x.dearer(8, 0), -1);
        due("dearer(-1, 0)", x.dearer(-1, 0), -1);
        due("dearer(0, 20)", x.dearer(0, 20), -1);
        due("dearer(0, -1)", x.dearer(0, -1), -1);
        due("gone", x.dearer(0, 4), -1);
        SpineDesks y = new SpineDesks();
        y.arc(0, 1, 0);
        y.arc(0, 1, 1_000_000);
        due("beyond what a price may be", y.dearer(0, 0), 1_000_000);
    }

    /** The other arc is 5 dearer but has the less number. */
    private static int dearerWithFewerBits() {
        SpineDesks x = new SpineDesks();
        x.arc(0, 1, 15);
        x.arc(0, 1, 10);
        return x.dearer(0, 1);
    }

    private static void without() {
        SpineDesks x = twoWays();
        due("a like one", x.without(0, 0), 0);
        due("not in it", x.without(0, 2), 0);
        x.price(3, 4);
        due("without(0, 0)", x.without(0, 0), 3);
        due("fewer places", x.without(1, 1), 10_000_000);
        due("out of nothing's way", x.without(7, 1), 0);
        due("without(8, 0)", x.without(8, 0), -1);
        due("without(-1, 0)", x.without(-1, 0), -1);
        due("without(0, 4)", x.without(0, 4), -1);
        due("without(0, -1)", x.without(0, -1), -1);
        due("without(0, 20)", x.without(0, 20), -1);
    }

    private static void cheaper() {
        SpineDesks x = twoWays();
        due("in it", x.cheaper(0, 0), 0);
        due("of like cost, more bits", x.cheaper(0, 2), 1);
        due("into the root", x.cheaper(1, 3), 10_000_000);
        due("from a place not reached", x.cheaper(1, 0), 10_000_000);
        due("nothing reached", x.cheaper(7, 0), 10_000_000);
        x.unarc(2);
        due("behind the place that it leads to", x.cheaper(0, 3), 10_000_000);
        due("cheaper(8, 0)", x.cheaper(8, 0), -1);
        due("cheaper(-1, 0)", x.cheaper(-1, 0), -1);
        due("gone", x.cheaper(0, 2), -1);
        due("cheaper(0, 20)", x.cheaper(0, 20), -1);
        due("cheaper(0, -1)", x.cheaper(0, -1), -1);
        SpineDesks y = new SpineDesks();
        y.arc(0, 1, 15);
        y.arc(0, 1, 10);
        due("of like cost, fewer bits", y.cheaper(0, 0), 5);
        SpineDesks z = new SpineDesks();
        z.arc(0, 1, 1);
        z.arc(0, 2, 1);
        z.arc(1, 3, 0);
        z.arc(2, 3, 0);
        due("below 0", z.cheaper(0, 3), 1);
    }

    private static void second() {
        SpineDesks x = twoWays();
        due("cost", x.second(0, 0), 11);
        due("bits", x.second(0, 1), 12);
        due("one alone", x.second(1, 0), -1);
        due("one alone", x.second(1, 1), -1);
        due("nothing reached", x.second(7, 0), -1);
        due("what 2", x.second(0, 2), -1);
        due("what -1", x.second(0, -1), -1);
        due("second(8, 0)", x.second(8, 0), -1);
        due("second(-1, 0)", x.second(-1, 0), -1);
        x.arc(0, 1, 10);
        due("of like ones the least bits", x.second(0, 1), 12);
        x.price(3, 0);
        due("the other is best then", x.best(0, 1), 12);
        due("second", x.second(0, 1), 3);
    }

    private static void center() {
        SpineDesks x = new SpineDesks();
        due("no arcs", x.center(0), 0);
        due("no arcs", x.center(1), 0);
        x.arc(3, 4, 9);
        due("most places", x.center(0), 3);
        due("its cost", x.center(1), 9);
        x.arc(5, 6, 8);
        due("of like ones the least cost", x.center(0), 5);
        x.price(1, 9);
        due("the first of like ones", x.center(0), 3);
        due("what 2", x.center(2), -1);
        due("what -1", x.center(-1), -1);
    }

    private static void arcs() {
        SpineDesks x = new SpineDesks();
        x.arc(7, 2, 5);
        due("from", x.arcs(0, 0), 7);
        due("to", x.arcs(0, 1), 2);
        due("cost", x.arcs(0, 2), 5);
        due("what 3", x.arcs(0, 3), -1);
        due("what -1", x.arcs(0, -1), -1);
        due("arcs(1, 0)", x.arcs(1, 0), -1);
        due("arcs(-1, 0)", x.arcs(-1, 0), -1);
        due("arcs(20, 0)", x.arcs(20, 0), -1);
        x.unarc(0);
        due("gone", x.arcs(0, 0), -1);
    }

    private static void count() {
        SpineDesks x = with(1, 2, 3, 4);
        x.arc(0, 1, 2);
        x.cross(3);
        x.cross(0);
        x.round(2);
        long[] numbers = {4, 2, 1, 1, 0, 2, 1, 1};
        for (int what = 0; what < 8; what++) if (what != 4) due("count(" + what + ")", x.count(what), numbers[what]);
        x.take(9);
        x.take(9);
        x.cut(0);
        x.take(5);
        x.cross(3);
        x.uncross(2);
        for (int i = 0; i < 20; i++) x.arc(0, 1, 1);
        due("by -1", x.count(8), 2);
        due("by -2", x.count(9), 1);
        due("by -3", x.count(10), 1);
        due("by -4", x.count(11), 2);
        due("by -5", x.count(12), 1);
        due("count(13)", x.count(13), -1);
        due("count(-1)", x.count(-1), -1);
        due("keep(9) is not told", (x.keep(9) ? 1 : 0) + x.count(8), 2);
    }

    private static void run(int number, Runnable test) {
        promise = number;
        test.run();
    }

    private static void desksPromises() {
        run(1, PromisesTest::newObject);
        run(2, PromisesTest::enter);
        run(2, PromisesTest::likeKeys);
        run(3, PromisesTest::take);
        run(4, PromisesTest::round);
        run(5, PromisesTest::crossing);
        run(6, PromisesTest::uncross);
        run(7, PromisesTest::cut);
        run(7, PromisesTest::cutGoesAllTheWayUp);
        run(8, PromisesTest::rekey);
        run(9, PromisesTest::raise);
        run(10, PromisesTest::meld);
        run(11, PromisesTest::part);
        run(12, PromisesTest::split);
        run(12, PromisesTest::splitGathers);
        run(13, PromisesTest::gather);
        run(13, PromisesTest::gatherTwoByTwo);
        run(14, PromisesTest::even);
        run(18, PromisesTest::keepAndAgain);
        run(19, PromisesTest::keepAndAgain);
        run(20, PromisesTest::key);
        run(21, PromisesTest::item);
        run(22, PromisesTest::desk);
        run(23, PromisesTest::along);
        run(24, PromisesTest::ranked);
        run(25, PromisesTest::least);
        run(26, PromisesTest::below);
        run(27, PromisesTest::keys);
        run(28, PromisesTest::pair);
        run(29, PromisesTest::above);
        run(30, PromisesTest::melding);
        run(31, PromisesTest::taking);
        run(32, PromisesTest::coming);
        run(33, PromisesTest::tagged);
        run(34, PromisesTest::log);
        run(43, PromisesTest::count);
    }

    private static void arcsPromises() {
        run(15, PromisesTest::arc);
        run(16, PromisesTest::unarc);
        run(17, PromisesTest::price);
        run(35, PromisesTest::best);
        run(35, PromisesTest::ring);
        run(36, PromisesTest::by);
        run(37, PromisesTest::dearer);
        run(38, PromisesTest::without);
        run(39, PromisesTest::cheaper);
        run(40, PromisesTest::second);
        run(41, PromisesTest::center);
        run(42, PromisesTest::arcs);
    }

    public static void main(String[] args) {
        desksPromises();
        arcsPromises();
        Check.end();
    }
}
