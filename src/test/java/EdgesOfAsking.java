/** The boundary cases of promises 18 to 34 and 43: what is kept, and questions about items and desks. */
final class EdgesOfAsking {
    private static final String GONE = "NoSuchElementException: none such, gone.";
    private static final String KEEPS = "keep() keeps LOG, turn, ARCS, how many are gone, not how many were REFUSED, not STEPS";
    private static final String PAPER = "STEPS on paper do not count.";
    private static final String LIMITS = "DESKS 0 .. 5.";

    private static void edge(int promise, String words, String which, String... rows) {
        Edges.edge(promise, words, which, rows);
    }

    private static String with(int... keys) {
        return Edges.with(keys);
    }

    /** A chain of lefts, the last that came at its root. */
    private static String chain(int n) {
        return Edges.times(n, i -> "enter(0, " + -i + ", 0) = " + i);
    }

    private static void keep() {
        String kept = "All is kept under k (0, 1), but for how many calls were REFUSED, and STEPS: true.";
        edge(18, kept, "under 0", with(1), "keep(0) = true; take(0) = 0; again(1) = false; again(0) = true; key(0) = 1");
        edge(18, kept, "under 1", with(1), "keep(1) = true; take(0) = 0; again(0) = false; again(1) = true; key(0) = 1");
        edge(18, kept, "under 0 and 1, apart", with(1, 2), "keep(0) = true; take(0) = 0; keep(1) = true; take(0) = 1; again(0) = true; count(1) = 2",
            "again(1) = true; count(1) = 1; again(0) = true; count(1) = 2");
        edge(18, kept, "kept anew", with(1, 2), "keep(0) = true; take(0) = 0; keep(0) = true; take(0) = 1; again(0) = true; count(1) = 1");
        edge(18, kept, "an empty hall", "keep(0) = true; enter(0, 1, 0) = 0; arc(0, 1, 1) = 0; again(0) = true; count(0) = 0; count(3) = 0",
            "desk(0, 0) = -1; enter(0, 1, 0) = 0");
        edge(18, kept, "keys, tags, desks, crossed ones, trees", "enter(0, 1, 5) = 0; enter(0, 2, 6) = 1; enter(0, 3, 7) = 2; cross(2) = 2",
            "keep(0) = true; raise(0, 9) = 3; uncross(2) = 3",
            "rekey(0, 50) = 2; meld(4, 0) = 0; again(0) = true; key(0) = 1; key(2) = 3; item(2, 0) = 7; item(2, 1) = 0; item(2, 2) = 1",
            "item(0, 4) = 1; item(0, 5) = 2; desk(0, 0) = 0; desk(4, 0) = -1");
        edge(18, kept, "what is done later does not change what is kept", with(1, 2), "keep(0) = true; cut(1) = 1; again(0) = true; cut(0) = 1",
            "again(0) = true; count(1) = 2");
        edge(18, kept, "who is above whom", with(3, 2, 1), "keep(0) = true; rekey(0, 0) = 0; item(1, 6) = 2; above(2, 0) = 0; again(0) = true",
            "item(0, 6) = 1",
            "item(1, 6) = 2; item(2, 6) = -1; item(0, 7) = 2; above(0, 1) = 2");
        edge(18, kept, "tags, though a number was given to another item", "keep(0) = true; enter(0, 1, 5) = 0; keep(1) = true; again(0) = true",
            "enter(0, 1, 6) = 0; again(1) = true; item(0, 0) = 5; tagged(6, 0) = -1");
        edge(18, kept, "all 300", chain(300), "keep(1) = true; cut(0) = 299; cut(299) = 298; raise(0, 9) = 298; again(1) = true; count(1) = 300",
            "item(0, 7) = 299",
            "key(299) = -299; desk(0, 0) = 299; least(0, 299) = 0");
        edge(18, KEEPS, "the log", with(1, 2), "take(0) = 0; keep(0) = true; take(0) = 1; again(0) = true; count(6) = 1; log(0, 0) = 0",
            "log(1, 0) = none");
        edge(18, KEEPS, "a log that was full", Edges.each(45, "enter(0, #, 0) = #"), Edges.each(41, "take(0) = #"),
            "keep(0) = true; take(0) = 41; take(0) = 42; again(0) = true; count(6) = 40; log(0, 0) = 40; log(39, 0) = 1; log(40, 0) = none");
        edge(18, KEEPS, "keys and desks in the log, though others were logged there", "keep(0) = true; enter(2, 1, 0) = 0; take(2) = 0",
            "keep(1) = true",
            "again(0) = true; enter(3, 9, 0) = 0; take(3) = 0; log(0, 1) = 9; log(0, 2) = 3; again(1) = true; log(0, 1) = 1; log(0, 2) = 2",
            "count(6) = 1");
        edge(18, KEEPS, "the turn", "round(4) = 0; keep(0) = true; round(1) = 0; again(0) = true; count(5) = 4");
        edge(18, KEEPS, "the arcs", "arc(0, 1, 5) = 0; arc(1, 2, 6) = 1; keep(0) = true; unarc(0) = 1; price(1, 9) = 6; arc(3, 4, 7) = 0",
            "again(0) = true",
            "count(3) = 2; arcs(0, 0) = 0; arcs(0, 1) = 1; arcs(0, 2) = 5; arcs(1, 2) = 6");
        edge(18, KEEPS, "how many are gone as crossed ones", with(1, 2, 3), "cross(0) = 2; keep(0) = true; cross(1) = 1; count(7) = 2",
            "again(0) = true; count(7) = 1; count(1) = 2");
        edge(18, KEEPS, "not how many were refused", "take(6) = -1; keep(0) = true; take(6) = -1; take(0) = -3; cut(0) = -2; again(0) = true",
            "count(8) = 2; count(9) = 1; count(10) = 1");
        edge(18, KEEPS, "not the steps", with(1, 2), "keep(0) = true; enter(0, 3, 0) = 2; count(4) = 2; again(0) = true; count(4) = 2",
            "enter(0, 3, 0) = 2; count(4) = 3");
        edge(18, "False: others.", "k -1", with(1), "keep(-1) = false; keep(MIN) = false; again(0) = false; again(1) = false; again(-1) = false");
        edge(18, "False: others.", "k 2", with(1), "keep(2) = false; keep(MAX) = false; again(0) = false; again(1) = false; again(2) = false");
        edge(18, "False: others.", "what was kept stays, and it is no refused call", with(1, 2), "keep(1) = true; take(0) = 0; keep(2) = false",
            "keep(-1) = false; again(1) = true; count(1) = 2; count(8) = 0");
    }

    private static void again() {
        String all = "All is as it was kept.";
        String no = "False: others, nothing kept.";
        edge(19, all, "twice", with(1, 2), "keep(0) = true; take(0) = 0; again(0) = true; count(1) = 2; take(0) = 0; take(0) = 1; again(0) = true",
            "count(1) = 2");
        edge(19, all, "at once", with(1, 2), "keep(0) = true; again(0) = true; count(1) = 2; count(0) = 2");
        edge(19, all, "how many came, so the next number is the one of then", with(1), "keep(0) = true; enter(0, 5, 0) = 1; enter(0, 6, 0) = 2",
            "again(0) = true; count(0) = 1; key(1) throws; enter(0, 7, 0) = 1; key(1) = 7");
        edge(19, all, "a number given again is of a new item, not crossed", with(1), "keep(0) = true; enter(0, 5, 9) = 1; cross(1) = 1",
            "again(0) = true",
            "enter(0, 5, 8) = 1; item(1, 2) = 0; item(1, 0) = 8; desk(0, 1) = 2");
        edge(19, all, "room is as it was", Edges.times(299, i -> "enter(" + i % 6 + ", 0, 0) = " + i), "keep(0) = true; enter(0, 0, 0) = 299",
            "enter(0, 0, 0) = -5; again(0) = true; enter(0, 0, 0) = 299; enter(0, 0, 0) = -5");
        edge(19, no, "nothing kept", with(1), "take(0) = 0; again(0) = false; again(1) = false; count(1) = 0; count(8) = 0; count(9) = 0");
        edge(19, no, "nothing kept under this one", with(1), "keep(0) = true; take(0) = 0; again(1) = false; count(1) = 0");
        edge(19, no, "k -1, 2", with(1), "keep(0) = true; keep(1) = true; take(0) = 0; again(-1) = false; again(2) = false; again(MIN) = false",
            "again(MAX) = false; count(1) = 0; count(8) = 0");
    }

    /** key(i), item(i, 0), above(i, 0): nothing but what is there has an answer. */
    private static void thrown(int promise, String call, String rest) {
        edge(promise, GONE, "none came", call + "(0" + rest + " throws");
        edge(promise, GONE, "too small", with(1), call + "(-1" + rest + " throws", call + "(MIN" + rest + " throws");
        edge(promise, GONE, "the next number", with(1), call + "(1" + rest + " throws");
        edge(promise, GONE, "too large", Edges.each(300, "enter(0, 0, 0) = #"), call + "(300" + rest + " throws", call + "(MAX" + rest + " throws");
        edge(promise, GONE, "taken", with(1, 2), "take(0) = 0", call + "(0" + rest + " throws");
        edge(promise, GONE, "called by turns", with(1, 2), "round(1) = 1", call + "(0" + rest + " throws");
        edge(promise, GONE, "cut", with(1, 2), "cut(1) = 1", call + "(1" + rest + " throws");
        edge(promise, GONE, "went as a crossed one", with(1, 2), "cross(0) = 1", call + "(0" + rest + " throws");
        edge(promise, GONE, "it is no refused call", call + "(0" + rest + " throws", "count(8) = 0; count(9) = 0");
    }

    private static void key() {
        String key = "KEY of an ITEM.";
        edge(20, key, "the least and the greatest that can come to be so by one raise", with(-1000000000, 1000000000), "raise(0, -1000000) = 2",
            "key(0) = -1001000000; key(1) = 999000000");
        edge(20, key, "of a crossed one", with(1, 2), "cross(1) = 1; key(1) = 2");
        edge(20, key, "raised 211 times by the most", with(1000000000), Edges.each(211, "raise(0, 1000000) = 1"), "key(0) = 1211000000");
        thrown(20, "key", ")");
    }

    private static void item() {
        String told = "the root of its LEFT (4), RIGHT (5; NONE), the ITEM above it (6; NONE), how many ITEMS are above it (7), ITEMS of its TREE (8).";
        edge(21, told, "one alone: none of them", with(1), "item(0, 3) = 1; item(0, 4) = -1; item(0, 5) = -1; item(0, 6) = -1; item(0, 7) = 0",
            "item(0, 8) = 1");
        edge(21, told, "a left, no right", with(1, 2), "item(0, 4) = 1; item(0, 5) = -1; item(1, 6) = 0; item(1, 7) = 1; item(0, 8) = 2");
        edge(21, told, "crossed ones are told", with(1, 2, 3), "cross(1) = 2; item(0, 4) = 1; item(0, 8) = 3; item(1, 6) = 0");
        edge(21, told, "as many as there can be", chain(300), "item(0, 7) = 299; item(299, 8) = 300; item(299, 7) = 0; item(0, 8) = 1");
        edge(21, "1 if CROSSED, else 0 (2)", "not, crossed, not any more", with(1, 2), "item(1, 2) = 0; cross(1) = 1; item(1, 2) = 1; uncross(1) = 2",
            "item(1, 2) = 0");
        edge(21, "Of an ITEM its TAG (what 0), DESK (1)", "behind a meld, a part", "enter(0, 1, 99) = 0; item(0, 0) = 99; item(0, 1) = 0",
            "meld(5, 0) = 0; item(0, 1) = 5; part(5, 3, 1) = 0; item(0, 1) = 3; item(0, 0) = 99");
        thrown(21, "item", ", 0)");
        edge(21, GONE, "also with another what", with(1), "item(1, 9) throws; item(-1, -1) throws");
        edge(21, "NONE: another what.", "what -1, 9", with(1, 2, 3), "item(0, -1) = -1; item(0, 9) = -1; item(0, MIN) = -1; item(0, MAX) = -1",
            "item(0, 8) = 3");
    }

    private static void desk() {
        String empty = "Of a DESK its root (what 0; NONE)";
        edge(22, empty, "an empty one", "desk(0, 0) = -1; enter(0, 1, 0) = 0; desk(0, 0) = 0; take(0) = 0; desk(0, 0) = -1");
        edge(22, "ITEMS that are not CROSSED (1), CROSSED ones (2)", "none, one, all but the root", with(1, 2, 3), "desk(0, 1) = 3; desk(0, 2) = 0",
            "cross(1) = 2; desk(0, 1) = 2; desk(0, 2) = 1; cross(2) = 1; desk(0, 1) = 1; desk(0, 2) = 2; cross(0) = 0; desk(0, 2) = 0");
        edge(22, "the most ITEMS one above another (4)", "none, one, a chain, both sides", "desk(0, 4) = 0", with(5), "desk(0, 4) = 1",
            "enter(0, 4, 0) = 1; desk(0, 4) = 2; enter(0, 3, 0) = 2; desk(0, 4) = 3; enter(0, 9, 0) = 3; desk(0, 4) = 3");
        edge(22, "the most ITEMS one above another (4)", "as many as there can be", chain(300), "desk(0, 4) = 300; desk(0, 3) = 1; desk(0, 5) = 1");
        edge(22, "ITEMS that are not CROSSED (1), CROSSED ones (2)", "all 300", chain(300), "desk(0, 1) = 300; desk(0, 2) = 0; cross(7) = 299",
            "desk(0, 2) = 1");
        edge(22, "ITEMS whose LEFT and RIGHT are of like RANK (6)", "of 300 the last alone", chain(300), "desk(0, 6) = 1; desk(0, 7) = 1",
            "desk(0, 8) = 0");
        edge(22, "how many ITEMS there are along RIGHT ones from the root on, it too (5)", "none, one, two", "desk(0, 5) = 0", with(1, 2),
            "desk(0, 5) = 1; enter(0, 3, 0) = 2; desk(0, 5) = 2; cross(2) = 2; desk(0, 5) = 2");
        edge(22, "ITEMS whose LEFT and RIGHT are of like RANK (6)", "none; one without both; a left alone; both", "desk(0, 6) = 0", with(1),
            "desk(0, 6) = 1; enter(0, 2, 0) = 1; desk(0, 6) = 1; enter(0, 3, 0) = 2; desk(0, 6) = 3; cross(1) = 2; desk(0, 6) = 3");
        edge(22, "ITEMS without LEFT, RIGHT (7)", "none; one; a left alone; both; crossed", "desk(0, 7) = 0", with(1), "desk(0, 7) = 1",
            "enter(0, 2, 0) = 1; desk(0, 7) = 1; enter(0, 3, 0) = 2; desk(0, 7) = 2; cross(1) = 2; desk(0, 7) = 2");
        edge(22, "ITEMS whose RIGHT has more ITEMS than its LEFT (8)", "as many: not; one more: it is", "desk(0, 8) = 0", with(1, 2, 3),
            "desk(0, 8) = 0; enter(0, 4, 0) = 3; desk(0, 8) = 1; cross(3) = 3; desk(0, 8) = 1");
        // 1 over 2 (5, 6) and 3 (4)
        edge(22, "ITEMS whose RIGHT has more ITEMS than its LEFT (8)", "the left has one more", with(5, 2, 6, 1, 3, 4), "item(3, 4) = 1",
            "item(3, 5) = 4; desk(0, 8) = 0");
        // 1 over 5 (7, 8) and 2, 3, 4, 6, one above another
        edge(22, "ITEMS whose RIGHT has more ITEMS than its LEFT (8)", "three and four", with(5, 7, 8, 1, 6, 4, 3, 2), "item(3, 4) = 0",
            "item(3, 5) = 7; desk(0, 8) = 1");
        edge(22, "NONE: others.", "a desk too small", with(1), "desk(-1, 1) = -1; desk(MIN, 0) = -1; desk(-1, -1) = -1");
        edge(22, "NONE: others.", "desk -1, while some are gone", with(1, 2, 3), "take(0) = 0; cut(1) = 1", Edges.each(9, "desk(-1, #) = -1"));
        edge(22, "NONE: others.", "a desk too large", with(1), "desk(6, 1) = -1; desk(MAX, 0) = -1; desk(6, 9) = -1");
        edge(22, "NONE: others.", "what -1", with(1), "desk(0, -1) = -1; desk(0, MIN) = -1");
        edge(22, "NONE: others.", "what 9", with(1), "desk(0, 9) = -1; desk(0, MAX) = -1; count(8) = 0");
        edge(22, LIMITS, "the first and the last", "enter(0, 1, 0) = 0; enter(5, 1, 0) = 1; desk(0, 1) = 1; desk(5, 1) = 1; desk(5, 0) = 1");
    }

    private static void along() {
        String told = "The i-th ITEM (0 the root) along RIGHT ones of a DESK (what 0), along LEFT ones (1).";
        String none = "NONE: none such, others.";
        edge(23, told, "0 is the root, both ways", with(1, 2, 3), "along(0, 0, 0) = 0; along(0, 0, 1) = 0; along(0, 1, 0) = 2; along(0, 1, 1) = 1");
        edge(23, told, "crossed ones are told", with(1, 2, 3), "cross(1) = 2; cross(2) = 1; along(0, 1, 0) = 2; along(0, 1, 1) = 1");
        edge(23, told, "the last of 300", chain(300), "along(0, 299, 1) = 0; along(0, 298, 1) = 1; along(0, 300, 1) = -1; along(0, 1, 0) = -1");
        edge(23, none, "one behind the last", with(1, 2, 3), "along(0, 2, 0) = -1; along(0, 2, 1) = -1; along(0, MAX, 0) = -1",
            "along(0, MAX, 1) = -1");
        edge(23, none, "i below 0", with(1), "along(0, -1, 0) = -1; along(0, MIN, 1) = -1");
        edge(23, none, "an empty desk", with(1), "along(1, 0, 0) = -1; along(1, 0, 1) = -1");
        edge(23, none, "another desk", with(1), "along(-1, 0, 0) = -1; along(6, 0, 0) = -1; along(MIN, 0, 1) = -1; along(MAX, 0, 1) = -1");
        edge(23, none, "another what", with(1), "along(0, 0, -1) = -1; along(0, 0, 2) = -1; along(0, 0, MIN) = -1; along(0, 0, MAX) = -1");
    }

    private static void ranked() {
        String told = "How many ITEMS of a DESK are roots of TREES of a RANK.";
        String none = "NONE: another DESK, RANK below 1.";
        edge(24, told, "rank 1, 2, one that none has", with(1, 2, 3), "ranked(0, 1) = 2; ranked(0, 2) = 1; ranked(0, 3) = 0; ranked(0, MAX) = 0");
        edge(24, told, "an empty desk", with(1), "ranked(1, 1) = 0; ranked(5, 1) = 0");
        edge(24, told, "crossed ones are told, those of other desks not", with(1, 2, 3), "enter(1, 1, 0) = 3; cross(1) = 2; ranked(0, 1) = 2",
            "ranked(1, 1) = 1");
        edge(24, told, "all 300", chain(300), "ranked(0, 1) = 300; ranked(0, 2) = 0");
        edge(24, told, "those that are gone are not", with(1, 2, 3), "cut(1) = 2; ranked(0, 1) = 2; ranked(0, 2) = 0; take(0) = 0; ranked(0, 1) = 1");
        edge(24, none, "rank 0 and below", with(1), "ranked(0, 0) = -1; ranked(0, -1) = -1; ranked(0, MIN) = -1; ranked(1, 0) = -1");
        edge(24, none, "another desk", with(1), "ranked(-1, 1) = -1; ranked(6, 1) = -1; ranked(MIN, 1) = -1; ranked(MAX, 1) = -1");
        edge(24, none, "desk -1, while some are gone", with(1, 2, 3), "take(0) = 0; cut(1) = 1; ranked(-1, 1) = -1");
    }

    private static void least() {
        String told = "The k-th (0 on) least ITEM of a DESK that is not CROSSED.";
        edge(25, told, "the first, the last", with(5, 9, 1), "least(0, 0) = 2; least(0, 1) = 0; least(0, 2) = 1");
        edge(25, told, "of like keys the less number", with(5, 5, 5), "least(0, 0) = 0; least(0, 1) = 1; least(0, 2) = 2");
        edge(25, told, "crossed ones are passed", with(1, 2, 3), "cross(1) = 2; least(0, 0) = 0; least(0, 1) = 2; least(0, 2) = -1");
        edge(25, "NONE.", "one behind the last", with(1, 2), "least(0, 2) = -1; least(0, 299) = -1; least(0, 300) = -1; least(0, MAX) = -1");
        edge(25, "NONE.", "k below 0", with(1), "least(0, -1) = -1; least(0, MIN) = -1");
        edge(25, "NONE.", "an empty desk", with(1), "least(1, 0) = -1");
        edge(25, "NONE.", "another desk", with(1), "least(-1, 0) = -1; least(6, 0) = -1; least(MIN, 0) = -1; least(MAX, 0) = -1");
        edge(25, "NONE.", "desk -1, while some are gone", with(1, 2, 3), "take(0) = 0; cut(1) = 1; least(-1, 0) = -1");
        edge(25, told, "the last of 300", chain(300), "least(0, 299) = 0; least(0, 0) = 299; least(0, 300) = -1");
        edge(25, told, "of nine that came in no order", with(5, 9, 1, 7, 3, 8, 2, 6, 4), "least(0, 0) = 2; least(0, 1) = 6; least(0, 2) = 4",
            "least(0, 3) = 8; least(0, 4) = 0",
            "least(0, 5) = 7; least(0, 6) = 3; least(0, 7) = 5; least(0, 8) = 1; least(0, 9) = -1");
        edge(25, told, "of four that came in no order", with(3, 1, 4, 2), "least(0, 0) = 1; least(0, 1) = 3; least(0, 2) = 0; least(0, 3) = 2");
    }

    private static void below() {
        String told = "How many ITEMS of a DESK that are not CROSSED have a KEY below a number.";
        edge(26, told, "a key like it is not below", with(10, 20), "below(0, 10) = 0; below(0, 11) = 1; below(0, 20) = 1; below(0, 21) = 2");
        edge(26, told, "the least and the greatest numbers", with(-1000000000, 1000000000), "below(0, LEAST) = 0; below(0, -1000000000) = 0",
            "below(0, -999999999) = 1; below(0, 1000000000) = 1; below(0, 1000000001) = 2; below(0, MOST) = 2");
        edge(26, told, "a number beyond int", with(1), "below(0, 4294967296) = 1; below(0, -4294967296) = 0; below(0, 4294967297) = 1",
            "below(0, -4294967290) = 0");
        edge(26, told, "crossed ones are not told", with(1, 2, 3), "cross(1) = 2; below(0, 9) = 2");
        edge(26, told, "all 300", chain(300), "below(0, 1) = 300; below(0, 0) = 299");
        edge(26, told, "an empty desk", "below(0, MOST) = 0; below(5, 0) = 0");
        edge(26, "NONE: another DESK.", "too small, too large", with(1), "below(-1, 0) = -1; below(6, 0) = -1; below(MIN, 0) = -1",
            "below(MAX, 0) = -1");
        edge(26, "NONE: another DESK.", "desk -1, while some are gone", with(1, 2, 3), "take(0) = 0; cut(1) = 1; below(-1, 9) = -1");
    }

    private static void keys() {
        String told = "Of a DESK's KEYS (ITEMS that are not CROSSED): all together (what 0), the greatest (1), the greatest gap between one and the next (2), how many different ones (3).";
        String none = "Long.MIN_VALUE: none (1, 2 with fewer than 1, 2 ITEMS), others.";
        edge(27, told, "crossed ones are not told", with(1, 5, 90), "cross(2) = 2; keys(0, 0) = 6; keys(0, 1) = 5; keys(0, 2) = 4; keys(0, 3) = 2");
        edge(27, told, "like keys: a gap of 0, one of them different", with(7, 7), "keys(0, 2) = 0; keys(0, 3) = 1; keys(0, 0) = 14; keys(0, 1) = 7");
        edge(27, told, "the greatest gap is the first, the last", with(1, 11, 12), "keys(0, 2) = 10; rekey(2, 30) = 2; keys(0, 2) = 19");
        edge(27, told, "below 0", with(-5, -9), "keys(0, 0) = -14; keys(0, 1) = -5; keys(0, 2) = 4");
        edge(27, told, "a sum beyond int", Edges.each(300, "enter(2, 1000000000, 0) = #"), "keys(2, 0) = 300000000000; keys(2, 3) = 1",
            "keys(2, 2) = 0");
        edge(27, told, "a sum beyond int, below 0", Edges.each(300, "enter(2, -1000000000, 0) = #"), "keys(2, 0) = -300000000000");
        edge(27, told, "300 different ones", chain(300), "keys(0, 0) = -44850; keys(0, 1) = 0; keys(0, 2) = 1; keys(0, 3) = 300");
        edge(27, told, "the greatest gap that enter() makes, and a greater one by raise()", with(-1000000000, 1000000000), "keys(0, 2) = 2000000000",
            "enter(1, 1000000000, 0) = 2",
            Edges.each(150, "raise(1, 1000000) = 1"), "meld(0, 1) = 1; cut(1) = 2; keys(0, 2) = 2150000000");
        edge(27, none, "1 of an empty desk, of one item", "keys(0, 1) = none", with(4), "keys(0, 1) = 4");
        edge(27, none, "2 of an empty desk, of one item, of two", "keys(0, 2) = none", with(4), "keys(0, 2) = none; enter(0, 6, 0) = 1",
            "keys(0, 2) = 2");
        edge(27, none, "2 of two, one of them crossed", with(4, 6), "cross(1) = 1; keys(0, 2) = none; keys(0, 1) = 4");
        edge(27, none, "what -1, 4", with(1, 2), "keys(0, -1) = none; keys(0, 4) = none; keys(0, MIN) = none; keys(0, MAX) = none");
        edge(27, none, "another desk", with(1, 2), "keys(-1, 0) = none; keys(6, 0) = none; keys(-1, 3) = none; keys(6, 3) = none",
            "keys(MIN, 0) = none; keys(MAX, 0) = none");
        edge(27, none, "desk -1, while some are gone", with(1, 2, 3), "take(0) = 0; cut(1) = 1", Edges.each(4, "keys(-1, #) = none"));
        edge(27, "keys(0), (3) of an empty DESK: 0.", "what 0, what 3", "keys(0, 0) = 0; keys(0, 3) = 0; keys(5, 0) = 0; keys(5, 3) = 0");
    }

    private static void pair() {
        String told = "Of the k-th PAIR (0 .. 39) of two DESKS (alike: an ITEM with itself, too) SUM (what 0), the ITEM of the one (1), of the other (2).";
        String none = "Long.MIN_VALUE: none, others.";
        String order = "in order by SUM, then by the ITEM of the one (LESS first), then by the other.";
        String itself = "pair() of a DESK with itself: couples in both orders, one with itself, too.";
        String many = Edges.times(60, i -> "enter(" + i % 2 + ", " + (i < 2 ? 0 : 50) + ", 0) = " + i);
        edge(28, told, "k 0, and the last", with(1, 2), "enter(5, 10, 0) = 2; pair(0, 5, 0, 0) = 11; pair(0, 5, 0, 1) = 0; pair(0, 5, 0, 2) = 2",
            "pair(0, 5, 1, 1) = 1; pair(0, 5, 2, 1) = none");
        edge(28, told, "k 39, not 40", many, "pair(0, 1, 39, 0) = 50; pair(0, 1, 39, 1) = 20; pair(0, 1, 39, 2) = 1; pair(0, 1, 40, 0) = none",
            "pair(0, 1, 40, 1) = none");
        edge(28, told, "k 39 of 40 with one item", with(1), Edges.times(40, i -> "enter(1, " + i + ", 0) = " + (i + 1)), "pair(0, 1, 39, 2) = 40",
            "pair(1, 0, 39, 1) = 40; pair(1, 0, 39, 2) = 0; pair(0, 1, 40, 2) = none");
        edge(28, told, "sums beyond int", with(1000000000, -1000000000), Edges.each(80, "raise(0, 1000000) = 2"),
            "pair(0, 0, 3, 0) = 2160000000",
            Edges.each(160, "raise(0, -1000000) = 2"), "pair(0, 0, 0, 0) = -2160000000");
        edge(28, order, "like sums: the less item of the one first", with(1, 2), "enter(1, 10, 0) = 2; enter(1, 11, 0) = 3; pair(0, 1, 1, 1) = 0",
            "pair(0, 1, 1, 2) = 3; pair(0, 1, 2, 1) = 1; pair(0, 1, 2, 2) = 2; pair(0, 1, 3, 0) = 13");
        edge(28, order, "less by key, though the number is more", with(2, 1), "enter(1, 10, 0) = 2; enter(1, 11, 0) = 3; pair(0, 1, 1, 1) = 1",
            "pair(0, 1, 2, 1) = 0");
        edge(28, order, "like keys: by numbers, of the one, then of the other", with(5, 5), "enter(1, 7, 0) = 2; enter(1, 7, 0) = 3",
            "pair(0, 1, 0, 1) = 0; pair(0, 1, 0, 2) = 2; pair(0, 1, 1, 1) = 0; pair(0, 1, 1, 2) = 3; pair(0, 1, 2, 1) = 1; pair(0, 1, 2, 2) = 2",
            "pair(0, 1, 3, 2) = 3");
        edge(28, "PAIRS of two DESKS: an ITEM of the one, an ITEM of the other, not CROSSED", "crossed ones are in none", with(1, 2),
            "enter(1, 1, 0) = 2; enter(1, 2, 0) = 3; cross(1) = 1; cross(3) = 1; pair(0, 1, 0, 0) = 2; pair(0, 1, 1, 0) = none",
            "pair(1, 0, 1, 0) = none; pair(0, 0, 1, 0) = none");
        edge(28, itself, "two items: four pairs", with(1, 3), "pair(0, 0, 0, 0) = 2; pair(0, 0, 0, 1) = 0; pair(0, 0, 0, 2) = 0",
            "pair(0, 0, 1, 1) = 0; pair(0, 0, 1, 2) = 1; pair(0, 0, 2, 1) = 1; pair(0, 0, 2, 2) = 0; pair(0, 0, 3, 0) = 6; pair(0, 0, 3, 1) = 1",
            "pair(0, 0, 4, 0) = none");
        edge(28, itself, "one item: one pair", with(4), "pair(0, 0, 0, 0) = 8; pair(0, 0, 1, 0) = none");
        edge(28, none, "k below 0", with(1), "pair(0, 0, -1, 0) = none; pair(0, 0, MIN, 0) = none; pair(0, 0, MAX, 0) = none");
        edge(28, none, "an empty desk", with(1), "pair(0, 1, 0, 0) = none; pair(1, 0, 0, 0) = none; pair(1, 1, 0, 0) = none");
        edge(28, none, "what -1, 3", with(1), "pair(0, 0, 0, -1) = none; pair(0, 0, 0, 3) = none; pair(0, 0, 0, MIN) = none",
            "pair(0, 0, 0, MAX) = none");
        edge(28, none, "another desk", with(1), "pair(-1, 0, 0, 0) = none; pair(6, 0, 0, 0) = none; pair(0, -1, 0, 0) = none",
            "pair(0, 6, 0, 0) = none; pair(MIN, 0, 0, 0) = none; pair(0, MAX, 0, 0) = none");
        edge(28, none, "another desk, while some are gone", with(1, 2, 3), "take(0) = 0; cut(1) = 1; pair(-1, 0, 0, 0) = none",
            "pair(0, -1, 0, 0) = none; pair(-1, -1, 0, 0) = none");
    }

    private static void above() {
        String told = "The i-th ITEM above one (0 the next).";
        edge(29, told, "0 the next, then the one above it", with(3, 2, 1), "above(0, 0) = 1; above(0, 1) = 2; above(1, 0) = 2");
        edge(29, told, "the root above 299 others", chain(300), "above(0, 298) = 299; above(0, 0) = 1; above(0, 299) = -1; above(0, 300) = -1");
        edge(29, told, "a crossed one is told", with(3, 2, 1), "cross(1) = 2; above(0, 0) = 1");
        edge(29, "NONE.", "above the root", with(1), "above(0, 0) = -1");
        edge(29, "NONE.", "one behind the root", with(2, 1), "above(0, 1) = -1; above(0, MAX) = -1");
        edge(29, "NONE.", "i below 0", with(2, 1), "above(0, -1) = -1; above(0, MIN) = -1");
        thrown(29, "above", ", 0)");
        edge(29, GONE, "also with an i that can't be", with(1), "above(1, -1) throws; above(-1, -1) throws");
    }

    private static void melding() {
        String told = "How many STEPS MELDED would take (as meld(); what 0), RANK of the TREE then (1).";
        String none = "NONE: meld() would be REFUSED; others.";
        String full = "melding() is NONE where meld() would be REFUSED, the other DESK empty, too; the first one empty: 0 STEPS, RANK of the other's.";
        String two = with(10, 30, 50) + "; enter(5, 20, 0) = 3; enter(5, 40, 0) = 4; enter(5, 60, 0) = 5";
        edge(30, told, "as meld() tells then", two, "melding(0, 5, 0) = 3; melding(0, 5, 1) = 2; melding(5, 0, 0) = 3; meld(0, 5) = 3",
            "desk(0, 3) = 2");
        edge(30, full, "the first one empty", two, "melding(2, 0, 0) = 0; melding(2, 0, 1) = 2; melding(3, 5, 1) = 2");
        edge(30, full, "the other one empty", two, "melding(0, 2, 0) = -1; melding(0, 2, 1) = -1; count(10) = 0");
        edge(30, full, "both empty", "melding(0, 1, 0) = -1; melding(0, 1, 1) = -1");
        edge(30, none, "alike", two, "melding(0, 0, 0) = -1; melding(5, 5, 1) = -1; count(8) = 0");
        edge(30, none, "another desk", two, "melding(-1, 0, 0) = -1; melding(6, 0, 0) = -1; melding(0, -1, 1) = -1; melding(0, 6, 1) = -1",
            "melding(MIN, 0, 0) = -1; melding(0, MAX, 0) = -1; count(8) = 0");
        edge(30, none, "what -1, 2", two, "melding(0, 5, -1) = -1; melding(0, 5, 2) = -1; melding(0, 5, MIN) = -1; melding(0, 5, MAX) = -1");
        edge(30, PAPER, "nothing is done", two, "count(4) = 4; melding(0, 5, 0) = 3; melding(0, 5, 1) = 2; count(4) = 4; desk(5, 1) = 3",
            "item(3, 1) = 5; item(0, 4) = 1");
    }

    private static void taking() {
        String told = "How many STEPS it would take to take a DESK's root (CROSSED ones that come to the root then, too).";
        String behind = "taking(): with the DESK's CROSSED ones that go behind it.";
        edge(31, told, "the only one: none", with(1), "taking(0) = 0");
        edge(31, told, "a left alone: none", with(1, 2), "taking(0) = 0");
        edge(31, told, "both: at least one", with(1, 2, 3), "taking(0) = 1; take(0) = 0; count(4) = 3");
        // 1 over 2 and 3 (4): 2 over 3; with 9: 3 over 4, 9, so that 2, if it goes, costs no step, and 3 costs 4 over 9
        edge(31, behind, "one that goes, two that go", with(1, 2, 3, 4), "enter(0, 9, 0) = 4; taking(0) = 1; cross(1) = 4; taking(0) = 1",
            "cross(2) = 3; taking(0) = 2; count(4) = 6; take(0) = 0; count(4) = 8");
        edge(31, behind, "all others are crossed", with(1, 2, 3), "cross(1) = 2; cross(2) = 1; taking(0) = 1; take(0) = 0; count(1) = 0",
            "count(4) = 3");
        edge(31, "NONE: none.", "an empty desk", with(1), "taking(1) = -1; taking(5) = -1; count(10) = 0");
        edge(31, "NONE: none.", "another desk", with(1), "taking(-1) = -1; taking(6) = -1; taking(MIN) = -1; taking(MAX) = -1; count(8) = 0");
        edge(31, PAPER, "nothing is done", with(1, 2, 3), "cross(1) = 2; taking(0) = 1; count(4) = 2; count(1) = 3; count(6) = 0; count(7) = 0",
            "desk(0, 0) = 0; item(1, 2) = 1");
    }

    private static void coming() {
        String told = "The ITEM that would be the k-th (0 on, 59 at most) DISPATCHED by a ROUND of 60.";
        String seventyTwo = Edges.times(72, i -> "enter(" + i % 6 + ", " + i + ", 0) = " + i);
        edge(32, told, "the first, the sixtieth, none behind it", seventyTwo, "coming(0) = 0; coming(59) = 59; coming(60) = -1");
        edge(32, told, "a desk alone has ten turns", Edges.each(12, "enter(3, #, 0) = #"), "coming(0) = 0; coming(9) = 9",
            "coming(10) = -1");
        edge(32, told, "its tenth turn is the last of 60", Edges.each(12, "enter(5, #, 0) = #"), "coming(9) = 9; coming(10) = -1",
            "round(5) = 0; coming(9) = 9; coming(10) = -1");
        edge(32, told, "from the desk next in turn on", "round(4) = 0; enter(0, 1, 0) = 0; enter(4, 1, 0) = 1; enter(5, 1, 0) = 2; coming(0) = 1",
            "coming(1) = 2; coming(2) = 0; coming(3) = -1");
        edge(32, told, "crossed ones never come", with(1, 2, 3), "cross(1) = 2; coming(0) = 0; coming(1) = 2; coming(2) = -1");
        edge(32, "NONE.", "k below 0, above 59", with(1), "coming(-1) = -1; coming(MIN) = -1; coming(60) = -1; coming(MAX) = -1");
        edge(32, "NONE.", "none are there", "coming(0) = -1; coming(59) = -1");
        edge(32, "NONE.", "one behind the last", with(1), "coming(0) = 0; coming(1) = -1");
        edge(32, PAPER, "nothing is done", with(1, 2, 3), "coming(1) = 1; count(4) = 2; count(5) = 0; count(6) = 0; count(1) = 3; desk(0, 0) = 0",
            "coming(1) = 1");
    }

    private static void tagged() {
        String told = "The DESK with most ITEMS that are not CROSSED of a TAG, the first of like ones (what 0), how many (1).";
        String none = "NONE: no such TAG, what; no ITEM has it.";
        String tags = "enter(1, 1, 99) = 0; enter(2, 1, 99) = 1; enter(2, 2, 99) = 2; enter(5, 1, 99) = 3; enter(5, 2, 99) = 4";
        edge(33, told, "the first of two with like many", tags, "tagged(99, 0) = 2; tagged(99, 1) = 2");
        edge(33, told, "one is crossed: the last desk", tags, "cross(2) = 1; tagged(99, 0) = 5; tagged(99, 1) = 2");
        edge(33, told, "one each: the first that has one", tags, "cross(2) = 1; cross(4) = 1; tagged(99, 0) = 1; tagged(99, 1) = 1");
        edge(33, told, "the least and the greatest tag", "enter(5, 1, 0) = 0; enter(4, 1, 99) = 1; tagged(0, 0) = 5; tagged(0, 1) = 1",
            "tagged(99, 0) = 4; tagged(99, 1) = 1");
        edge(33, told, "all 300", chain(300), "tagged(0, 0) = 0; tagged(0, 1) = 300");
        edge(33, none, "no item has it", tags, "tagged(98, 0) = -1; tagged(98, 1) = -1; tagged(0, 0) = -1");
        edge(33, none, "one that is gone had it", "enter(0, 1, 7) = 0; tagged(7, 0) = 0; take(0) = 0; tagged(7, 0) = -1; tagged(7, 1) = -1");
        edge(33, none, "only a crossed one has it", "enter(0, 1, 6) = 0; enter(0, 2, 7) = 1; cross(1) = 1; tagged(7, 0) = -1; tagged(7, 1) = -1");
        edge(33, none, "a tag too small, too large", tags, "tagged(-1, 0) = -1; tagged(100, 0) = -1; tagged(-1, 1) = -1; tagged(100, 1) = -1",
            "tagged(MIN, 0) = -1; tagged(MAX, 1) = -1");
        edge(33, none, "what -1, 2", tags, "tagged(99, -1) = -1; tagged(99, 2) = -1; tagged(99, MIN) = -1; tagged(99, MAX) = -1");
    }

    private static void log() {
        String told = "The i-th LOGGED, the latest first: ITEM (what 0), KEY (1), DESK (2).";
        String others = "Long.MIN_VALUE: others.";
        edge(34, told, "0 is the latest", "enter(4, -7, 0) = 0; enter(5, 8, 0) = 1; take(4) = 0; take(5) = 1; log(0, 0) = 1; log(0, 1) = 8",
            "log(0, 2) = 5; log(1, 0) = 0; log(1, 1) = -7; log(1, 2) = 4");
        edge(34, told, "the fortieth, when there are more", Edges.times(50, i -> "enter(" + i % 6 + ", " + i + ", 0) = " + i), "round(30) = 30",
            "round(12) = 12; log(39, 0) = 2; log(39, 1) = 2; log(39, 2) = 2; log(40, 0) = none; log(41, 0) = none");
        edge(34, told, "a key beyond what enter() takes", with(1000000000), "raise(0, 1000000) = 1; take(0) = 0; log(0, 1) = 1001000000");
        edge(34, told, "none that was cut or went as a crossed one", with(1, 2, 3), "cut(2) = 2; cross(0) = 1; log(0, 0) = none; take(0) = 1",
            "log(0, 0) = 1; log(1, 0) = none");
        edge(34, others, "nothing logged", with(1), "log(0, 0) = none; log(0, 1) = none; log(0, 2) = none");
        edge(34, others, "one behind the first that was logged", with(1, 2), "take(0) = 0; log(1, 0) = none; log(39, 0) = none; log(40, 0) = none",
            "log(MAX, 0) = none");
        edge(34, others, "i below 0", with(1), "take(0) = 0; log(-1, 0) = none; log(MIN, 0) = none");
        edge(34, others, "what -1, 3", with(1), "take(0) = 0; log(0, -1) = none; log(0, 3) = none; log(0, MIN) = none; log(0, MAX) = none");
    }

    private static void count() {
        String told = "0 ITEMS that came, 1 that are there, 2 not CROSSED, 3 ARCS, 4 STEPS, 5 the DESK next in turn, 6 LOGGED, 7 ITEMS gone as CROSSED ones";
        String refused = "8 .. 12 how many calls were REFUSED by -1 .. -5.";
        edge(43, told, "came, there, not crossed", with(1, 2, 3, 4), "cross(3) = 3; take(0) = 0; count(0) = 4; count(1) = 3; count(2) = 2");
        edge(43, told, "arcs, some gone", "arc(0, 1, 1) = 0; arc(0, 1, 1) = 1; unarc(0) = 1; count(3) = 1");
        edge(43, told, "logged: those that the log has", Edges.each(42, "enter(0, 0, 0) = #"), Edges.each(40, "take(0) = #"),
            "count(6) = 40; take(0) = 40; count(6) = 40");
        edge(43, told, "gone as crossed ones: not one that was cut or taken", with(1, 2, 3, 4), "cross(3) = 3; cut(3) = 3; take(0) = 0; count(7) = 0",
            "cross(1) = 1; count(7) = 1");
        edge(43, refused, "none by questions", "desk(9, 0) = -1; best(8, 0) = -2; best(0, 3) = -2; arcs(0, 0) = -1; count(13) = -1",
            "melding(0, 0, 0) = -1; taking(0) = -1; keep(2) = false; again(0) = false",
            "count(8) = 0; count(9) = 0; count(10) = 0; count(11) = 0; count(12) = 0");
        edge(43, refused, "each reason apart", with(1, 2), "round(0) = -1; round(31) = -1; unarc(0) = -2; take(5) = -3; uncross(1) = -4",
            "cross(1) = 1; cross(1) = -4; cross(1) = -4",
            "count(8) = 2; count(9) = 1; count(10) = 1; count(11) = 3; count(12) = 0");
        edge(43, refused, "by -5: items, arcs", Edges.each(300, "enter(0, 0, 0) = #"), Edges.each(20, "arc(0, 1, 1) = #"),
            "enter(0, 0, 0) = -5; arc(0, 1, 1) = -5; count(12) = 2; count(11) = 0");
        edge(43, "NONE: others.", "what -1, 13", with(1), "count(-1) = -1; count(13) = -1; count(MIN) = -1; count(MAX) = -1; count(12) = 0");
    }

    static void all() {
        keep();
        again();
        key();
        item();
        desk();
        along();
        ranked();
        least();
        below();
        keys();
        pair();
        above();
        melding();
        taking();
        coming();
        tagged();
        log();
        count();
    }
}
