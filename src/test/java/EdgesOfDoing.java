/** The boundary cases of promises 1 to 14: a new object, and the calls that do something to desks. */
final class EdgesOfDoing {
    private static final String LIMITS = "DESKS 0 .. 5.";
    private static final String FIRST = "The first of these in that order.";
    private static final String NUMBERS = "ITEMS 0, 1, .. (as they come, 300 at most; a number is not given again): a KEY, a TAG 0 .. 99, a DESK";
    private static final String LESS = "Of two ITEMS that one is LESS that has the less KEY, of like KEYS the less number.";
    private static final String LOOK = "the root of each DESK, as long as it is CROSSED, is TAKEN: it is gone.";
    private static final String BEHIND_ALL =
        "cross(), uncross(), cut(), raise(), rekey() tell what is so behind all (also behind CROSSED ones that went)";
    private static final String CROSSED_OR_NOT = "cut(), raise() are of ITEMS CROSSED or not.";
    private static final String REFUSED = "REFUSED (nothing changes, but what is told of that)";

    private static void edge(int promise, String words, String which, String... rows) {
        Edges.edge(promise, words, which, rows);
    }

    private static String with(int... keys) {
        return Edges.with(keys);
    }

    /** All 300 ITEMS, over six DESKS. */
    private static String full() {
        return Edges.times(300, i -> "enter(" + i % 6 + ", " + i + ", 0) = " + i);
    }

    /** All 300 ITEMS, in DESK 0: a chain of lefts, the last that came at its root. */
    private static String chain() {
        return Edges.times(300, i -> "enter(0, " + -i + ", 0) = " + i);
    }

    private static void newObject() {
        String words = "No ITEMS, no ARCS.";
        edge(1, words, "no item came, is there", "count(0) = 0; count(1) = 0; count(2) = 0; key(0) throws; item(0, 0) throws; above(0, 0) throws");
        edge(1, words, "no item can be crossed, cut, given a key", "cross(0) = -2; uncross(0) = -2; cut(0) = -2; rekey(0, 1) = -2");
        edge(1, words, "each desk is empty", Edges.each(6, "desk(#, 0) = -1; desk(#, 1) = 0; desk(#, 2) = 0; desk(#, 3) = 0; desk(#, 4) = 0"),
            Edges.each(6, "desk(#, 5) = 0; desk(#, 6) = 0; desk(#, 7) = 0; desk(#, 8) = 0; take(#) = -3"));
        edge(1, words, "no arc is there", "count(3) = 0", Edges.each(20, "arcs(#, 0) = -1; unarc(#) = -2"));
        edge(1, words, "a place reaches itself alone", Edges.each(8, "best(#, 0) = 0; best(#, 1) = 0"),
            Edges.times(8, p -> "best(" + p + ", 2) = " + (1 << p)));
        edge(1, words, "nothing counted, logged, kept", Edges.times(9, i -> "count(" + (i + 4) + ") = 0"),
            "log(0, 0) = none; again(0) = false; again(1) = false; coming(0) = -1");
        edge(1, "The constants: `NONE = -1`: There is none.", "the root of an empty desk", "desk(0, 0) = " + SpineDesks.NONE + "; desk(0, 0) = -1");
    }

    private static void enter() {
        String entered = "An ITEM is ENTERED: its number.";
        String key = "KEY -1,000,000,000 .. 1,000,000,000.";
        String no = "-1; -5.";
        edge(2, entered, "0, then 1, over all desks", "enter(3, 7, 0) = 0; enter(2, 7, 0) = 1; enter(3, 7, 0) = 2; count(0) = 3");
        edge(2, NUMBERS, "a number of one that was taken is not given again", "enter(0, 1, 0) = 0; take(0) = 0; enter(0, 1, 0) = 1; count(0) = 2");
        edge(2, NUMBERS, "nor of one that was cut", "enter(0, 1, 0) = 0; cut(0) = 0; enter(0, 1, 0) = 1");
        edge(2, NUMBERS, "nor of one that went as a crossed one", "enter(0, 1, 0) = 0; cross(0) = 0; enter(0, 1, 0) = 1");
        edge(2, NUMBERS, "nor of a refused call's", "enter(0, 1, 100) = -1; enter(0, 1, 0) = 0; enter(6, 1, 0) = -1; enter(0, 1, 0) = 1");
        edge(2, NUMBERS, "the 300th comes, the next does not", full(), "count(0) = 300; item(299, 1) = 5; enter(0, 0, 0) = -5; count(0) = 300",
            "count(1) = 300");
        edge(2, NUMBERS, "gone ones leave no room", full(), "take(0) = 0; cut(1) = 49; cross(2) = 49; enter(0, 0, 0) = -5; count(1) = 297");
        edge(2, NUMBERS, "the least and the greatest tag", "enter(0, 1, 0) = 0; enter(0, 1, 99) = 1; item(0, 0) = 0; item(1, 0) = 99");
        edge(2, NUMBERS, "a tag too small", "enter(0, 1, -1) = -1; enter(0, 1, MIN) = -1; count(8) = 2; count(0) = 0");
        edge(2, NUMBERS, "a tag too large", "enter(0, 1, 100) = -1; enter(0, 1, MAX) = -1; count(8) = 2; count(0) = 0");
        edge(2, LIMITS, "the first and the last desk", "enter(0, 1, 0) = 0; enter(5, 1, 0) = 1; item(0, 1) = 0; item(1, 1) = 5; desk(5, 0) = 1");
        edge(2, LIMITS, "a desk too small", "enter(-1, 1, 0) = -1; enter(MIN, 1, 0) = -1; count(8) = 2; count(0) = 0");
        edge(2, LIMITS, "a desk too large", "enter(6, 1, 0) = -1; enter(MAX, 1, 0) = -1; count(8) = 2; count(0) = 0");
        edge(2, key, "the least key", "enter(0, -1000000000, 0) = 0; key(0) = -1000000000");
        edge(2, key, "the greatest key", "enter(0, 1000000000, 0) = 0; key(0) = 1000000000");
        edge(2, key, "a key too small", "enter(0, -1000000001, 0) = -1; enter(0, MIN, 0) = -1; count(0) = 0");
        edge(2, key, "a key too large", "enter(0, 1000000001, 0) = -1; enter(0, MAX, 0) = -1; count(0) = 0");
        edge(2, no, "-1 is told as such", "enter(6, 1, 0) = -1; count(8) = 1; count(12) = 0");
        edge(2, no, "-5 is told as such", full(), "enter(0, 1, 0) = -5; count(8) = 0; count(12) = 1");
        edge(2, FIRST, "-1 ahead of -5", full(), "enter(6, 1, 0) = -1; enter(0, 1000000001, 0) = -1; enter(0, 1, 100) = -1; count(12) = 0");
        edge(2, "ENTERED: an ITEM as a TREE of its own is MELDED: the DESK's TREE first, then it.", "into an empty desk no step",
            "enter(0, 1, 0) = 0; count(4) = 0; desk(0, 3) = 1; item(0, 4) = -1; item(0, 5) = -1; enter(1, 1, 0) = 1; count(4) = 0",
            "enter(0, 2, 0) = 2; count(4) = 1");
        edge(2, LESS, "of like keys the less number is above", with(7, 7, 7), "desk(0, 0) = 0; least(0, 1) = 1; take(0) = 0; take(0) = 1",
            "take(0) = 2");
        edge(2, LESS, "also if it is entered later", with(7, 5), "desk(0, 0) = 1; rekey(0, 5) = 0; desk(0, 0) = 0; item(0, 4) = 1");
        edge(2, LESS, "the less key, though the number is more", with(7, -7), "desk(0, 0) = 1; item(1, 4) = 0");
        edge(2, "RANK of a TREE: 0 of an empty one, else 1 more than RANK of its RIGHT.", "empty, without right, with a right",
            "desk(0, 3) = 0; enter(0, 1, 0) = 0; desk(0, 3) = 1; enter(0, 2, 0) = 1; desk(0, 3) = 1; enter(0, 3, 0) = 2; desk(0, 3) = 2",
            "item(1, 3) = 1");
        String exchanged = "if RANK of its LEFT is less than RANK of its RIGHT, these are exchanged.";
        edge(2, exchanged, "no left at all", with(1, 2), "item(0, 4) = 1; item(0, 5) = -1");
        edge(2, exchanged, "of like rank: not exchanged", with(1, 2, 3), "item(0, 4) = 1; item(0, 5) = 2");
        edge(2, exchanged, "one less", with(1, 2, 3, 4, 5), "item(2, 3) = 2; item(0, 4) = 2; item(0, 5) = 1");
        edge(2, "A DESK is a TREE of its ITEMS that are not gone, CROSSED or not: empty, or a root with a LEFT and a RIGHT TREE.",
            "a crossed one stands in it",
            with(1, 2, 3), "cross(1) = 2; item(0, 4) = 1; item(0, 8) = 3; desk(0, 7) = 2; desk(1, 0) = -1");
    }

    private static void take() {
        String dispatched = "DISPATCHED: the ITEM.";
        String no = "-1; -3.";
        String logged = "DISPATCHED: the root of a DESK is TAKEN, gone, and LOGGED (number, KEY, DESK; the last 40).";
        edge(3, dispatched, "the only one of the last desk", "enter(5, 1, 0) = 0; take(5) = 0; desk(5, 0) = -1; count(1) = 0; key(0) throws");
        edge(3, dispatched, "the turn stays", with(1, 2), "take(0) = 0; take(0) = 1; count(5) = 0");
        edge(3, no, "a desk too small", "take(-1) = -1; take(MIN) = -1; count(8) = 2");
        edge(3, no, "a desk too large", "take(6) = -1; take(MAX) = -1; count(8) = 2");
        edge(3, no, "an empty desk", "enter(1, 5, 0) = 0; take(0) = -3; take(2) = -3; count(10) = 2; count(6) = 0; count(1) = 1");
        edge(3, no, "a desk that came to be empty", with(1), "take(0) = 0; take(0) = -3; count(6) = 1");
        edge(3, no, "its only one was crossed out", with(1), "cross(0) = 0; take(0) = -3; count(6) = 0");
        edge(3, no, "its tree was melded into another", with(1), "meld(1, 0) = 0; take(0) = -3; take(1) = 0");
        edge(3, logged, "39, 40, 41 of them", Edges.times(42, i -> "enter(3, " + (100 + i) + ", 0) = " + i), Edges.each(39, "take(3) = #"),
            "count(6) = 39; log(38, 0) = 0; log(39, 0) = none; take(3) = 39; count(6) = 40; log(39, 0) = 0; log(39, 1) = 100; log(39, 2) = 3",
            "log(40, 0) = none",
            "take(3) = 40; count(6) = 40; log(0, 0) = 40; log(39, 0) = 1; log(39, 1) = 101; log(40, 0) = none");
        edge(3, logged, "the key as it was then", with(5, 6), "raise(0, 10) = 2; take(0) = 0; raise(0, 10) = 1; log(0, 1) = 15");
        edge(3, LOOK, "one crossed one comes to the root", with(1, 2, 3), "cross(1) = 2; take(0) = 0; desk(0, 0) = 2; count(7) = 1; count(6) = 1",
            "key(1) throws");
        edge(3, LOOK, "three, one behind another", with(1, 2, 3, 4, 5), "cross(3) = 4; cross(2) = 3; cross(1) = 2; take(0) = 0; desk(0, 0) = 4",
            "count(7) = 3; count(1) = 1");
        edge(3, LOOK, "all that is left is crossed", with(1, 2, 3), "cross(1) = 2; cross(2) = 1; take(0) = 0; desk(0, 0) = -1; count(7) = 2",
            "count(1) = 0; take(0) = -3");
        edge(3, LOOK, "199, one behind another", Edges.each(200, "enter(1, #, 0) = #"),
            Edges.times(199, i -> "cross(" + (199 - i) + ") = " + (199 - i)),
            "count(7) = 0; take(1) = 0; count(7) = 199; count(1) = 0; desk(1, 0) = -1");
        edge(3, LOOK, "one that is not at the root stays", with(1, 2, 3, 4), "cross(3) = 3; take(0) = 0; count(7) = 0; item(3, 2) = 1");
        edge(3, "TAKEN: the root goes, the TREE is MELD of its LEFT, its RIGHT.", "both, one, none of them", with(1, 2, 3),
            "count(4) = 2; take(0) = 0; count(4) = 3; desk(0, 0) = 1; item(1, 4) = 2; take(0) = 1; count(4) = 3; take(0) = 2; count(4) = 3",
            "desk(0, 3) = 0");
        edge(3, "TAKEN: the root goes, the TREE is MELD of its LEFT, its RIGHT.", "what comes to the root has none above it", with(1, 2),
            "item(1, 6) = 0; take(0) = 0; item(1, 6) = -1; item(1, 7) = 0; above(1, 0) = -1");
    }

    private static void round() {
        String rounds = "ROUND of n (1 .. 30): how many ITEMS.";
        String turns = "the DESK next in turn (0 at first; behind it the one with the next number, behind 5 0) has its root DISPATCHED";
        String passed = "if it is not empty; else it is passed (that is one of the n times, too).";
        edge(4, rounds, "n 1", "enter(0, 1, 0) = 0; enter(0, 2, 0) = 1; round(1) = 1; count(5) = 1; count(1) = 1");
        edge(4, rounds, "n 30", Edges.times(36, i -> "enter(" + i % 6 + ", " + i + ", 0) = " + i), "round(30) = 30; count(5) = 0; count(1) = 6",
            "log(0, 0) = 29");
        edge(4, "-1.", "n 0", with(1), "round(0) = -1; count(8) = 1; count(5) = 0; count(1) = 1");
        edge(4, "-1.", "n 31", with(1), "round(31) = -1; count(8) = 1; count(5) = 0; count(1) = 1");
        edge(4, "-1.", "far too small, too large", "round(-1) = -1; round(MIN) = -1; round(MAX) = -1; count(8) = 3");
        edge(4, "-1.", "the turn stays where it is", "round(2) = 0; round(31) = -1; round(0) = -1; count(5) = 2");
        edge(4, turns, "0 at first", "enter(1, 1, 0) = 0; enter(0, 9, 0) = 1; round(1) = 1; log(0, 0) = 1; count(5) = 1");
        edge(4, turns, "behind 5 comes 0", "round(5) = 0; count(5) = 5; enter(5, 1, 0) = 0; enter(0, 1, 0) = 1; round(1) = 1; log(0, 0) = 0",
            "count(5) = 0; round(1) = 1; log(0, 0) = 1; count(5) = 1");
        edge(4, turns, "once round and one more", with(1, 2, 3), "round(7) = 2; count(5) = 1; count(1) = 1; log(0, 0) = 1");
        edge(4, passed, "all are empty", "round(30) = 0; count(5) = 0; round(4) = 0; count(5) = 4; count(10) = 0");
        edge(4, passed, "five empty ones ahead", "enter(5, 1, 0) = 0; round(5) = 0; count(5) = 5; round(1) = 1; count(5) = 0");
        edge(4, passed, "each of the n times is one turn, passed or not", "enter(1, 1, 0) = 0; enter(3, 1, 0) = 1; round(4) = 2; count(5) = 4");
        edge(4, "(and behind each ITEM that PARTED, DISPATCHED takes or enters)", "a crossed one goes behind its turn, and the next turn finds none",
            with(1, 2), "cross(1) = 1; round(7) = 1; count(7) = 1; count(6) = 1; count(1) = 0");
        edge(4, "(and behind each ITEM that PARTED, DISPATCHED takes or enters)", "a crossed one is none of those told", with(1, 2, 3),
            "cross(1) = 2; round(7) = 2; log(0, 0) = 2; log(1, 0) = 0; count(7) = 1");
    }

    private static void cross() {
        String crossed = "An ITEM is CROSSED: how many of its DESK are not CROSSED then.";
        String no = "-2; -4.";
        edge(5, crossed, "the only one of a desk", with(1), "cross(0) = 0; count(7) = 1; desk(0, 0) = -1; key(0) throws");
        edge(5, crossed, "of its own desk alone", "enter(0, 1, 0) = 0; enter(1, 1, 0) = 1; enter(1, 2, 0) = 2; cross(2) = 1; desk(1, 2) = 1",
            "count(2) = 2");
        edge(5, crossed, "one of 300", chain(), "cross(0) = 299; cross(150) = 298; item(0, 2) = 1; desk(0, 2) = 2");
        edge(5, "CROSSED out: an ITEM stays where it is", "below the root", with(1, 2, 3), "cross(2) = 2; item(2, 2) = 1; item(0, 5) = 2",
            "item(2, 6) = 0; count(4) = 2; count(7) = 0");
        edge(5, LOOK, "the root", with(1, 2, 3), "cross(0) = 2; count(7) = 1; desk(0, 0) = 1; count(4) = 3; count(6) = 0");
        edge(5, LOOK, "the root, and those crossed before it", with(1, 2, 3, 4), "cross(1) = 3; cross(2) = 2; count(7) = 0; cross(0) = 1",
            "count(7) = 3; desk(0, 0) = 3");
        edge(5, BEHIND_ALL, "all of a desk go", with(1, 2, 3), "cross(2) = 2; cross(1) = 1; cross(0) = 0; count(7) = 3; desk(0, 0) = -1",
            "desk(0, 2) = 0");
        notThere(5, "cross", no);
        edge(5, no, "-4: it is crossed", with(1, 2), "cross(1) = 1; cross(1) = -4; cross(1) = -4; count(11) = 2; desk(0, 2) = 1");
        edge(5, FIRST, "-2 ahead of -4: crossed, and gone", with(1, 2), "cross(1) = 1; cross(0) = 0; cross(1) = -2; cross(0) = -2; count(9) = 2",
            "count(11) = 0");
    }

    /** cross, uncross, cut: -2 for all that is not there. */
    private static void notThere(int promise, String call, String words) {
        edge(promise, words, "-2: none came", call + "(0) = -2; count(9) = 1");
        edge(promise, words, "-2: too small", with(1), call + "(-1) = -2", call + "(MIN) = -2; count(9) = 2; count(8) = 0");
        edge(promise, words, "-2: the next number", with(1), call + "(1) = -2; count(9) = 1");
        edge(promise, words, "-2: too large", full(), call + "(300) = -2", call + "(MAX) = -2; count(9) = 2; count(8) = 0");
        edge(promise, words, "-2: taken", with(1, 2), "take(0) = 0", call + "(0) = -2");
        edge(promise, words, "-2: called by turns", with(1, 2), "round(1) = 1", call + "(0) = -2");
        edge(promise, words, "-2: cut", with(1, 2), "cut(1) = 1", call + "(1) = -2");
        edge(promise, words, "-2: went as a crossed one", with(1, 2, 3), "cross(1) = 2; cross(0) = 1", call + "(0) = -2", call + "(1) = -2");
    }

    private static void uncross() {
        String uncrossed = "An ITEM is not CROSSED any more: likewise.";
        String no = "-2; -4.";
        edge(6, uncrossed, "how many of its desk are not crossed then", with(1, 2, 3), "enter(1, 1, 0) = 3; cross(1) = 2; cross(2) = 1",
            "uncross(1) = 2; uncross(2) = 3");
        edge(6, uncrossed, "it stays when it comes to the root", with(1, 2), "cross(1) = 1; uncross(1) = 2; take(0) = 0; desk(0, 0) = 1",
            "count(7) = 0");
        edge(6, uncrossed, "it can be crossed again", with(1, 2), "cross(1) = 1; uncross(1) = 2; cross(1) = 1; item(1, 2) = 1");
        edge(6, BEHIND_ALL, "another one is crossed still", with(1, 2, 3), "cross(1) = 2; cross(2) = 1; uncross(2) = 2; desk(0, 2) = 1; take(0) = 0",
            "count(7) = 1");
        notThere(6, "uncross", no);
        edge(6, no, "-4: it never was crossed", with(1, 2), "uncross(0) = -4; uncross(1) = -4; count(11) = 2");
        edge(6, no, "-4: it is not any more", with(1, 2), "cross(1) = 1; uncross(1) = 2; uncross(1) = -4; count(11) = 1");
        edge(6, FIRST, "-2 ahead of -4: gone, and not crossed", with(1, 2), "take(0) = 0; uncross(0) = -2; count(9) = 1; count(11) = 0");
    }

    private static void cut() {
        String isCut = "An ITEM is CUT, and gone: how many ITEMS its DESK has.";
        String upwards = "then from where it was upwards, of each ITEM above, LEFT and RIGHT are exchanged, if RANK of the LEFT is less.";
        edge(7, isCut, "the only one", with(1), "cut(0) = 0; desk(0, 0) = -1; count(1) = 0; key(0) throws");
        edge(7, isCut, "the root", with(1, 2, 3), "cut(0) = 2; desk(0, 0) = 1; count(4) = 3; item(1, 6) = -1");
        edge(7, isCut, "one without left, right", with(1, 2, 3), "cut(2) = 2; item(0, 5) = -1; count(4) = 2");
        edge(7, isCut, "of its own desk alone", "enter(0, 1, 0) = 0; enter(1, 1, 0) = 1; enter(1, 2, 0) = 2; cut(2) = 1");
        edge(7, isCut, "one of 300", chain(), "cut(0) = 299; cut(150) = 298; item(149, 6) = 151; cut(299) = 297; desk(0, 0) = 298",
            "item(298, 6) = -1");
        edge(7, isCut, "it is not logged, nor gone as a crossed one", with(1, 2), "cross(1) = 1; cut(1) = 1; cut(0) = 0; count(6) = 0; count(7) = 0");
        edge(7, "MELD of its LEFT, its RIGHT comes in its place", "one with both", with(1, 2, 3, 4, 5),
            "item(2, 4) = 3; item(2, 5) = 4; item(2, 6) = 0; cut(2) = 4; item(3, 6) = 0; item(3, 4) = 4; item(4, 6) = 3; count(4) = 7");
        edge(7, upwards, "the left goes, the right comes to the left", with(10, 20, 30, 40), "cut(1) = 3; item(0, 4) = 2; item(0, 5) = -1",
            "item(0, 3) = 1");
        edge(7, upwards, "of like rank: not exchanged", with(1, 2, 3, 4), "item(2, 4) = 3; cut(3) = 3; item(0, 4) = 1; item(0, 5) = 2",
            "item(0, 3) = 2");
        edge(7, upwards, "two above it, the root too", with(2, 4, 5), "enter(1, 3, 0) = 3; enter(1, 6, 0) = 4; enter(1, 7, 0) = 5",
            "enter(2, 1, 0) = 6",
            "meld(2, 0) = 1; meld(2, 1) = 1; item(6, 4) = 0; item(6, 5) = 3; cut(2) = 6; item(0, 3) = 1; item(6, 4) = 3; item(6, 5) = 0",
            "item(6, 3) = 2");
        edge(7, CROSSED_OR_NOT, "a crossed one is cut", with(1, 2, 3), "cross(1) = 2; cut(1) = 2; desk(0, 2) = 0; count(7) = 0");
        edge(7, CROSSED_OR_NOT, "a crossed one is told among those there", with(1, 2, 3), "cross(1) = 2; cut(2) = 2; desk(0, 1) = 1");
        edge(7, BEHIND_ALL, "the root is cut, a crossed one goes behind it", with(1, 2, 3), "cross(1) = 2; cut(0) = 1; count(7) = 1; desk(0, 0) = 2");
        edge(7, BEHIND_ALL, "the root is cut, all others go behind it", with(1, 2, 3), "cross(1) = 2; cross(2) = 1; cut(0) = 0; count(7) = 2",
            "desk(0, 0) = -1");
        notThere(7, "cut", "-2.");
    }

    private static void rekey() {
        String told = "REKEYED (KEY as for enter()): how many ITEMS of its DESK that are not CROSSED are LESS.";
        String no = "-1; -2; -4 (it has that KEY).";
        String asItIs = "REKEYED: CUT, then ENTERED as it is (its number, TAG, CROSSED) with another KEY.";
        edge(8, told, "the least key", with(1, 2), "rekey(1, -1000000000) = 0; key(1) = -1000000000; desk(0, 0) = 1");
        edge(8, told, "the greatest key", with(1, 2), "rekey(0, 1000000000) = 1; key(0) = 1000000000; desk(0, 0) = 1");
        edge(8, told, "the only one", with(1), "rekey(0, 5) = 0; desk(0, 0) = 0; count(4) = 0");
        edge(8, told, "one of 300", chain(), "rekey(0, -1000) = 0; desk(0, 0) = 0; rekey(0, 1000) = 299; desk(0, 0) = 299");
        edge(8, told, "of like keys: the less number is less", with(10, 20), "rekey(1, 10) = 1; desk(0, 0) = 0");
        edge(8, told, "of like keys: the greater number is not", with(20, 10), "rekey(0, 10) = 0; desk(0, 0) = 0");
        edge(8, told, "crossed ones are not told", with(1, 2, 3), "cross(1) = 2; rekey(2, 9) = 1");
        edge(8, told, "of its own desk alone", with(5), "enter(1, 1, 0) = 1; rekey(0, 9) = 0; item(0, 1) = 0");
        edge(8, no, "-1: a key too small", with(1), "rekey(0, -1000000001) = -1; rekey(0, MIN) = -1; count(8) = 2; key(0) = 1");
        edge(8, no, "-1: a key too large", with(1), "rekey(0, 1000000001) = -1; rekey(0, MAX) = -1; count(8) = 2; key(0) = 1");
        edge(8, no, "-2: no such item", with(1), "rekey(-1, 5) = -2; rekey(MIN, 5) = -2; rekey(1, 5) = -2; rekey(300, 5) = -2; rekey(MAX, 5) = -2",
            "count(9) = 5");
        edge(8, no, "-2: gone", with(1, 2, 3), "take(0) = 0; cut(2) = 1; cross(1) = 0; rekey(0, 5) = -2; rekey(1, 5) = -2; rekey(2, 5) = -2",
            "count(9) = 3");
        edge(8, no, "-4: it has that key", with(1), "rekey(0, 1) = -4; count(11) = 1; count(4) = 0");
        edge(8, no, "-4: by a raise it has", with(10), "raise(0, 5) = 1; rekey(0, 15) = -4; rekey(0, 10) = 0; key(0) = 10; count(11) = 1");
        edge(8, no, "-4: a crossed one, too", with(1, 2), "cross(1) = 1; rekey(1, 2) = -4");
        edge(8, FIRST, "-1 ahead of -2", "rekey(0, 1000000001) = -1; rekey(-1, -1000000001) = -1; count(9) = 0");
        edge(8, FIRST, "-1 ahead of -4: it has a key beyond", with(1000000000), "raise(0, 1) = 1; key(0) = 1000000001; rekey(0, 1000000001) = -1",
            "count(11) = 0");
        edge(8, FIRST, "-2 ahead of -4: gone with that key", with(1), "take(0) = 0; rekey(0, 1) = -2; count(11) = 0");
        edge(8, asItIs, "its number and tag", "enter(0, 1, 42) = 0; enter(0, 2, 7) = 1; rekey(0, 3) = 1; item(0, 0) = 42; count(0) = 2",
            "count(1) = 2");
        edge(8, asItIs, "crossed, and not at the root", with(1, 2, 3), "cross(1) = 2; rekey(1, 9) = 2; item(1, 2) = 1; count(7) = 0");
        edge(8, BEHIND_ALL, "crossed, and then at the root", with(5, 6), "cross(1) = 1; rekey(1, 1) = 0; key(1) throws; count(7) = 1",
            "desk(0, 0) = 0");
        edge(8, BEHIND_ALL, "a root that goes down, crossed ones come up", with(1, 2, 3), "cross(1) = 2; cross(2) = 1; rekey(0, 9) = 0; count(7) = 2",
            "count(1) = 1");
        // 20 is crossed. Were there a look behind CUT, 20 would go before 30 is melded with it: no step
        edge(8, "behind each call that does something", "no look between cut and entered", with(10, 20), "cross(1) = 1; count(4) = 1",
            "rekey(0, 30) = 0; count(4) = 2; count(7) = 1");
    }

    private static void raise() {
        String raised = "RAISED by -1,000,000 .. 1,000,000: how many ITEMS it has.";
        String no = "-1; -3.";
        edge(9, raised, "the most", with(1), "raise(0, 1000000) = 1; key(0) = 1000001");
        edge(9, raised, "the least", with(1), "raise(0, -1000000) = 1; key(0) = -999999");
        edge(9, raised, "by 0", with(1, 2), "raise(0, 0) = 2; key(0) = 1; count(11) = 0");
        edge(9, raised, "all 300", chain(), "raise(0, 5) = 300; key(0) = 5; key(299) = -294");
        edge(9, raised, "one that comes later is not raised", with(1), "raise(0, 5) = 1; enter(0, 7, 0) = 1; key(1) = 7");
        edge(9, raised, "beyond what enter() takes", with(1000000000, -1000000000), "raise(0, 1000000) = 2; key(0) = 1001000000",
            "raise(0, -1000000) = 2; raise(0, -1000000) = 2; key(1) = -1001000000; keys(0, 1) = 999000000");
        edge(9, "RAISED: all KEYS of a DESK are more by as much.", "no other desk, none that is gone", with(1, 2), "enter(1, 5, 0) = 2; take(0) = 0",
            "raise(0, 7) = 1",
            "key(1) = 9; key(2) = 5; log(0, 1) = 1");
        edge(9, CROSSED_OR_NOT, "crossed ones are raised and told", with(1, 2, 3), "cross(1) = 2; raise(0, 10) = 3; key(1) = 12; item(1, 2) = 1");
        edge(9, BEHIND_ALL, "nothing comes to a root by it", with(1, 2), "cross(1) = 1; raise(0, -9) = 2; count(7) = 0; desk(0, 0) = 0");
        edge(9, no, "-1: too much", with(1), "raise(0, 1000001) = -1; raise(0, MAX) = -1; count(8) = 2; key(0) = 1");
        edge(9, no, "-1: too little", with(1), "raise(0, -1000001) = -1; raise(0, MIN) = -1; count(8) = 2; key(0) = 1");
        edge(9, no, "-1: another desk", with(1), "raise(-1, 1) = -1; raise(6, 1) = -1; raise(MIN, 1) = -1; raise(MAX, 1) = -1; count(8) = 4");
        edge(9, no, "-3: empty", "enter(5, 1, 0) = 0; raise(0, 1) = -3; raise(4, 1) = -3; raise(5, 1) = 1; count(10) = 2");
        edge(9, no, "-3: came to be empty", with(1), "cross(0) = 0; raise(0, 1) = -3");
        edge(9, FIRST, "-1 ahead of -3", "raise(0, 1000001) = -1; raise(6, 1) = -1; count(10) = 0");
    }

    private static void meld() {
        String melded = "MELDED: the other DESK's TREE into the first: how many STEPS.";
        String no = "-1 (alike, too); -3 (the other one is empty).";
        String alone = "meld(): STEPS of the MELD alone; into an empty DESK 0";
        edge(10, melded, "the last into the first desk", with(1), "enter(5, 2, 0) = 1; meld(0, 5) = 1; desk(0, 1) = 2; item(1, 1) = 0",
            "item(0, 4) = 1");
        edge(10, melded, "the root of the other is less", with(2), "enter(5, 1, 0) = 1; meld(0, 5) = 1; desk(0, 0) = 1; item(0, 1) = 0",
            "item(1, 1) = 0");
        edge(10, melded, "150 and 150", Edges.times(300, i -> "enter(" + i % 2 + ", " + -i + ", 0) = " + i), "meld(0, 1) = 1; desk(0, 1) = 300",
            "desk(1, 1) = 0",
            "item(299, 1) = 0; item(1, 1) = 0; desk(0, 0) = 299; item(299, 5) = 298");
        edge(10, LESS, "like keys of two desks", "enter(0, 5, 0) = 0; enter(1, 5, 0) = 1; meld(1, 0) = 1; desk(1, 0) = 0; item(0, 4) = 1");
        edge(10, "MELDED: a DESK's TREE, then another one's; that one is empty.", "it is, and takes items again", with(1),
            "enter(1, 2, 0) = 1; meld(0, 1) = 1; desk(1, 0) = -1; desk(1, 1) = 0; take(1) = -3; enter(1, 3, 0) = 2; desk(1, 0) = 2; desk(0, 1) = 2");
        edge(10, "MELDED: a DESK's TREE, then another one's; that one is empty.", "crossed ones go along", with(1, 2), "cross(1) = 1",
            "enter(1, 0, 0) = 2; meld(1, 0) = 1",
            "item(1, 1) = 1; item(1, 2) = 1; desk(1, 2) = 1; desk(0, 2) = 0");
        edge(10, alone, "into an empty desk", with(1, 2, 3), "meld(4, 0) = 0; desk(4, 0) = 0; item(2, 1) = 4; desk(0, 0) = -1; count(4) = 2");
        edge(10, alone, "not what was before", with(10, 30, 50), "enter(1, 20, 0) = 3; enter(1, 40, 0) = 4; enter(1, 60, 0) = 5; count(4) = 4",
            "meld(0, 1) = 3; count(4) = 7");
        edge(10, "MELD of two TREES: one of them, if the other one is empty; else (a STEP)", "a right spine ends first", with(1, 2),
            "enter(1, 3, 0) = 2; enter(1, 4, 0) = 3",
            "enter(1, 5, 0) = 4; meld(0, 1) = 1; item(0, 4) = 2; item(0, 5) = 1; item(0, 3) = 2");
        edge(10, no, "-1: alike", with(1), "meld(0, 0) = -1; count(8) = 1; desk(0, 0) = 0");
        edge(10, no, "-1: the first desk can't be", with(1), "meld(-1, 0) = -1; meld(6, 0) = -1; meld(MIN, 0) = -1; meld(MAX, 0) = -1; count(8) = 4");
        edge(10, no, "-1: the other desk can't be", with(1), "meld(0, -1) = -1; meld(0, 6) = -1; meld(0, MIN) = -1; meld(0, MAX) = -1; count(8) = 4");
        edge(10, no, "-1: both can't be, and are alike", "meld(6, 6) = -1; meld(-1, -1) = -1");
        edge(10, no, "-3: the other one is empty", with(1), "meld(0, 1) = -3; count(10) = 1; desk(0, 0) = 0");
        edge(10, no, "-3: both are empty", "meld(0, 1) = -3; count(10) = 1");
        edge(10, FIRST, "-1 ahead of -3", "meld(0, 0) = -1; meld(6, 0) = -1; count(10) = 0");
    }

    private static void part() {
        String parted = "PARTED: n (1 .. 50) go from a DESK to the other one: the last of them.";
        String no = "-1 (alike, too); -3 (it has not so many that are not CROSSED).";
        String looks = "PARTED: the root is TAKEN, all DESKS are looked at, it is ENTERED, all are looked at.";
        String fifty = Edges.each(51, "enter(3, #, 0) = #");
        edge(11, parted, "n 1", with(1, 2), "part(0, 5, 1) = 0; item(0, 1) = 5; desk(0, 0) = 1; count(1) = 2; count(6) = 0");
        edge(11, parted, "n 50", fifty, "part(3, 2, 50) = 49; desk(3, 1) = 1; desk(2, 1) = 50; desk(3, 0) = 50");
        edge(11, parted, "50 of 300", chain(), "part(0, 1, 50) = 250; desk(0, 1) = 250; desk(1, 1) = 50; desk(1, 0) = 299");
        edge(11, no, "-1: n 0", with(1), "part(0, 1, 0) = -1; count(8) = 1; desk(0, 1) = 1");
        edge(11, no, "-1: n 51", fifty, "part(3, 2, 51) = -1; count(8) = 1; desk(3, 1) = 51");
        edge(11, no, "-1: n far too small, too large", with(1), "part(0, 1, -1) = -1; part(0, 1, MIN) = -1; part(0, 1, MAX) = -1; count(8) = 3");
        edge(11, no, "-1: alike", with(1), "part(0, 0, 1) = -1; count(8) = 1");
        edge(11, no, "-1: the first desk can't be", with(1), "part(-1, 0, 1) = -1; part(6, 0, 1) = -1; part(MIN, 0, 1) = -1; part(MAX, 0, 1) = -1",
            "count(8) = 4");
        edge(11, no, "-1: the other desk can't be", with(1), "part(0, -1, 1) = -1; part(0, 6, 1) = -1; part(0, MIN, 1) = -1; part(0, MAX, 1) = -1",
            "count(8) = 4");
        edge(11, no, "-3: empty", with(1), "part(1, 0, 1) = -3; count(10) = 1");
        edge(11, no, "-3: one too few; just as many are fine", with(1, 2), "part(0, 1, 3) = -3; desk(0, 1) = 2; part(0, 1, 2) = 1; desk(0, 0) = -1",
            "desk(1, 1) = 2");
        edge(11, no, "-3: as many, but one is crossed", with(1, 2, 3), "cross(1) = 2; part(0, 1, 3) = -3; count(10) = 1; count(7) = 0",
            "part(0, 1, 2) = 2");
        edge(11, FIRST, "-1 ahead of -3", "part(0, 1, 51) = -1; part(0, 1, 0) = -1; part(0, 0, 1) = -1; count(10) = 0");
        edge(11, looks, "crossed ones behind the first, the second, the last", with(1, 2, 3, 4, 5, 6), "cross(1) = 5; cross(3) = 4; cross(5) = 3",
            "part(0, 1, 3) = 4",
            "count(7) = 3; desk(0, 0) = -1; desk(1, 1) = 3; count(1) = 3");
        edge(11, looks, "a crossed one that is not at the root stays", with(1, 2, 3, 4), "cross(3) = 3; part(0, 1, 1) = 0; desk(0, 2) = 1",
            "count(7) = 0");
        edge(11, "PARTED: of a DESK the n least ITEMS that are not CROSSED are TAKEN one by one, and ENTERED in another DESK, one by one (as they are, with their KEYS).",
            "keys, tags, numbers; into a desk that has some", "enter(0, 5, 50) = 0; enter(0, 5, 51) = 1; enter(1, 5, 52) = 2; part(0, 1, 2) = 1",
            "key(0) = 5; item(0, 0) = 50; item(1, 0) = 51; desk(1, 0) = 0; least(1, 1) = 1; least(1, 2) = 2; count(4) = 3");
    }

    private static void split() {
        String told = "SPLIT: ITEMS of a DESK with a KEY up to a number go to the other DESK: how many.";
        String no = "-1 (alike, too); -3 (there are none).";
        String all = "split() tells all that go (-3 if none at all has a KEY up to it).";
        String along = "What is SPLIT off and GATHERED takes its CROSSED ITEMS along";
        String later = "GATHERED first, then ENTERED; CROSSED ones at roots go behind the whole call.";
        edge(12, told, "a key like the number goes, one more stays", with(10, 11), "split(0, 1, 10) = 1; item(0, 1) = 1; item(1, 1) = 0",
            "desk(0, 0) = 1");
        edge(12, told, "all go", with(10, 20, 30), "split(0, 5, 30) = 3; desk(0, 0) = -1; desk(5, 1) = 3; desk(0, 3) = 0");
        edge(12, told, "all 300 go", chain(), "split(0, 1, 0) = 300; desk(0, 0) = -1; desk(1, 1) = 300; desk(1, 0) = 299");
        edge(12, told, "one tree alone stays: it has none above it", with(1, 2), "item(1, 6) = 0; split(0, 1, 1) = 1; item(1, 6) = -1",
            "item(1, 7) = 0; above(1, 0) = -1");
        edge(12, told, "one tree alone stays as it stands", with(1), "enter(1, 2, 0) = 1; enter(1, 3, 0) = 2; enter(1, 4, 0) = 3; meld(0, 1) = 1",
            "split(0, 2, 1) = 1; desk(0, 0) = 1; item(1, 4) = 2; item(1, 5) = 3; item(2, 6) = 1; item(3, 6) = 1; count(4) = 3");
        edge(12, told, "any number: beyond all keys", with(1000000000), "raise(0, 5) = 1; split(0, 1, 1000000004) = -3; split(0, 1, 1000000005) = 1",
            "split(1, 0, MAX) = 1; split(0, 1, MIN) = -3; count(8) = 0");
        edge(12, told, "into a desk that has some", with(10, 20, 30), "enter(1, 5, 0) = 3; split(0, 1, 20) = 2; desk(1, 0) = 3; desk(1, 1) = 3",
            "desk(0, 0) = 2");
        edge(12, no, "-1: alike", with(1), "split(0, 0, 1) = -1; count(8) = 1");
        edge(12, no, "-1: the first desk can't be", with(1), "split(-1, 0, 1) = -1; split(6, 0, 1) = -1; split(MIN, 0, 1) = -1",
            "split(MAX, 0, 1) = -1; count(8) = 4");
        edge(12, no, "-1: the other desk can't be", with(1), "split(0, -1, 1) = -1; split(0, 6, 1) = -1; split(0, MIN, 1) = -1",
            "split(0, MAX, 1) = -1; count(8) = 4");
        edge(12, no, "-3: the least key is one above", with(10, 20), "split(0, 1, 9) = -3; count(10) = 1; desk(0, 1) = 2; desk(1, 0) = -1");
        edge(12, no, "-3: empty", "split(0, 1, MAX) = -3; count(10) = 1");
        edge(12, FIRST, "-1 ahead of -3", "split(0, 0, 1) = -1; split(6, 0, 1) = -1; count(10) = 0");
        edge(12, all, "crossed ones are told", with(10, 20, 30), "cross(1) = 2; split(0, 1, 20) = 2; item(1, 1) = 1; item(1, 2) = 1; count(7) = 0");
        edge(12, along, "crossed below what goes and what stays", with(10, 20, 30, 40, 50), "cross(1) = 4; cross(4) = 3; split(0, 1, 25) = 2",
            "desk(1, 2) = 1; desk(0, 2) = 1; count(7) = 0");
        // 20 over 30 is one step; were 20 gone before, there would be none
        edge(12, later, "a crossed root of what stays is gathered, then goes", with(10, 20, 30), "cross(1) = 2; count(4) = 2; split(0, 1, 10) = 1",
            "count(4) = 3",
            "count(7) = 1; desk(0, 0) = 2; desk(0, 2) = 0");
        edge(12, later, "all that stays is crossed, and goes", with(10, 20, 30), "cross(1) = 2; cross(2) = 1; split(0, 1, 10) = 1; desk(0, 0) = -1",
            "count(7) = 2; count(1) = 1");
        String seven = "enter(0, 1, 0) = 0; enter(1, 10, 0) = 1; enter(1, 20, 0) = 2; enter(1, 30, 0) = 3; enter(2, 5, 0) = 4; enter(2, 15, 0) = 5;"
            + "enter(2, 25, 0) = 6; meld(0, 1) = 1; meld(0, 2) = 1; item(0, 4) = 1; item(0, 5) = 4";
        // 10 (20, 30), 15, 25 stay in this order: 10 and 15 are melded by 2 steps, 25 and that by 2; 1, then 5 are entered by 1
        edge(12, "these TREES, as they stand from the left to the right (an ITEM's LEFT ahead of its RIGHT), are GATHERED, and are the DESK's",
            "three of them", seven,
            "count(4) = 6; split(0, 3, 5) = 2; count(4) = 11; item(1, 4) = 5; item(1, 5) = 2; item(5, 4) = 3; item(5, 5) = 6");
        edge(12, "all others are ENTERED in another DESK one by one, the least first.", "as one by one in order of keys", with(10, 20, 5, 30),
            "split(0, 1, 20) = 3; desk(1, 0) = 2; item(2, 4) = 0; item(2, 5) = 1; desk(0, 0) = 3");
        // by the tree 1, 3, 2 would come; by keys 1, 2, 3
        edge(12, "all others are ENTERED in another DESK one by one, the least first.", "not as they stand in the tree", with(1, 3, 2),
            "item(0, 4) = 1; item(0, 5) = 2; split(0, 1, 9) = 3; item(0, 4) = 2; item(0, 5) = 1");
        edge(12, LESS, "of like keys the less number is entered first", with(10, 5, 5, 5), "split(0, 1, 5) = 3; desk(1, 0) = 1; item(1, 4) = 2",
            "item(1, 5) = 3");
    }

    private static void gather() {
        String gathered = "All DESKS that are not empty (0 first) are GATHERED into a DESK, the others are empty: how many STEPS.";
        String no = "-1; -3 (all are empty).";
        String one = "gather() of one alone: 0, it moves.";
        String rows = "GATHERED: TREES in a row, two by two: the first two are MELDED (the first, then the second), that comes behind all; so on, till one is left.";
        edge(13, gathered, "into the first desk", "enter(0, 1, 0) = 0; enter(5, 2, 0) = 1; gather(0) = 1; desk(0, 1) = 2; desk(5, 0) = -1",
            "item(1, 1) = 0");
        edge(13, gathered, "into the last desk", "enter(0, 1, 0) = 0; enter(5, 2, 0) = 1; gather(5) = 1; desk(5, 1) = 2; desk(0, 0) = -1",
            "item(0, 1) = 5");
        edge(13, gathered, "into one that was empty", "enter(0, 1, 0) = 0; enter(5, 2, 0) = 1; gather(3) = 1; desk(3, 1) = 2; desk(0, 0) = -1",
            "desk(5, 0) = -1");
        edge(13, gathered, "crossed ones go along", with(1, 2), "cross(1) = 1; enter(1, 5, 0) = 2; gather(1) = 1; desk(1, 2) = 1; item(1, 1) = 1",
            "count(7) = 0");
        edge(13, one, "to another desk", with(1, 2, 3), "gather(4) = 0; desk(4, 1) = 3; desk(0, 0) = -1; item(2, 1) = 4; count(4) = 2");
        edge(13, one, "in that very desk", with(1, 2, 3), "gather(0) = 0; desk(0, 1) = 3; item(2, 1) = 0; count(4) = 2");
        edge(13, one, "all 300", chain(), "gather(5) = 0; desk(5, 1) = 300; item(0, 1) = 5; item(299, 1) = 5; desk(0, 0) = -1");
        edge(13, rows, "two", "enter(2, 1, 0) = 0; enter(4, 2, 0) = 1; gather(4) = 1; item(0, 4) = 1");
        // 20 and 5: 5 over 20. Then 10 (that was third) and that: 5 with left 20, right 10
        edge(13, rows, "three: the third, then what the first two made", "enter(0, 20, 0) = 0; enter(2, 5, 0) = 1; enter(4, 10, 0) = 2",
            "gather(3) = 2; item(1, 4) = 0; item(1, 5) = 2");
        edge(13, rows, "six", Edges.each(6, "enter(#, #, 0) = #"),
            "gather(5) = 6; item(0, 4) = 2; item(0, 5) = 1; item(2, 4) = 3; item(2, 5) = 4; item(4, 4) = 5");
        edge(13, no, "-1: a desk too small", with(1), "gather(-1) = -1; gather(MIN) = -1; count(8) = 2; desk(0, 0) = 0");
        edge(13, no, "-1: a desk too large", with(1), "gather(6) = -1; gather(MAX) = -1; count(8) = 2; desk(0, 0) = 0");
        edge(13, no, "-3: all are empty", "gather(0) = -3; gather(5) = -3; count(10) = 2");
        edge(13, no, "-3: all came to be empty", with(1), "take(0) = 0; gather(0) = -3; count(10) = 1");
        edge(13, FIRST, "-1 ahead of -3", "gather(6) = -1; count(10) = 0");
    }

    private static void even() {
        String evened = "EVENED: how many ITEMS were PARTED.";
        String two = "EVENED: as long as a DESK has 2 more ITEMS that are not CROSSED than another one";
        String first = "one is PARTED from the DESK with most (the first of like ones) to that with fewest (the first of like ones).";
        edge(14, evened, "no items", "even() = 0; count(4) = 0");
        edge(14, evened, "all in one desk", Edges.each(12, "enter(3, #, 0) = #"), "even() = 10",
            Edges.each(6, "desk(#, 1) = 2"), "even() = 0");
        edge(14, evened, "all 300 in one desk", chain(), "even() = 250", Edges.each(6, "desk(#, 1) = 50"), "even() = 0");
        edge(14, two, "1 more: none goes", with(1), "even() = 0; item(0, 1) = 0");
        edge(14, two, "2 more: one goes", with(1, 2), "even() = 1; item(0, 1) = 1; item(1, 1) = 0");
        edge(14, two, "2 more, but one is crossed", with(1, 2), "cross(1) = 1; even() = 0; count(7) = 0; item(1, 2) = 1");
        edge(14, two, "2 more beside a crossed one", with(1, 2, 3), "cross(1) = 2; even() = 1; item(0, 1) = 1; count(7) = 1; desk(0, 0) = 2");
        edge(14, "even(): of all six DESKS, empty ones, too.", "only the last is empty",
            Edges.each(5, "enter(#, 2, 0) = #"),
            "enter(4, 1, 0) = 5; even() = 1; item(5, 1) = 5; desk(4, 1) = 1");
        edge(14, first, "two with most, four with fewest", "enter(2, 1, 0) = 0; enter(2, 2, 0) = 1; enter(4, 1, 0) = 2; enter(4, 2, 0) = 3",
            "even() = 2",
            "item(0, 1) = 0; item(2, 1) = 1; item(1, 1) = 2; item(3, 1) = 4");
        edge(14, first, "a desk with crossed ones alone more is not one with most", "enter(0, 1, 0) = 0; enter(0, 2, 0) = 1; enter(0, 3, 0) = 2",
            "cross(1) = 2; cross(2) = 1",
            "enter(1, 1, 0) = 3; enter(1, 2, 0) = 4; even() = 1; item(3, 1) = 2; desk(0, 1) = 1; count(7) = 0");
    }

    private static void general() {
        String steps = "STEPS are counted, of all that is done.";
        edge(3, REFUSED, "no look at the desks, no step behind a refused call", with(1, 2), "cross(1) = 1; take(1) = -3; round(0) = -1; cut(9) = -2",
            "cross(1) = -4",
            "count(7) = 0; count(1) = 2; count(4) = 1");
        edge(43, "-1 a number that can't be; -2 no such ITEM, ARC (gone); -3 it is empty, or has too few; -4 it is so already; -5 no room.",
            "each of them once", full(),
            "take(6) = -1; cut(300) = -2; part(0, 1, 50) = 294; part(0, 1, 1) = -3; uncross(1) = -4; enter(0, 0, 0) = -5",
            "count(8) = 1; count(9) = 1; count(10) = 1; count(11) = 1; count(12) = 1");
        // 1 over 3 (4, 5) and 2: behind the first ITEM by 1, 1, 2, 2 steps
        edge(43, steps, "of enter()", with(1, 2, 3, 4, 5), "count(4) = 6; enter(1, 9, 0) = 5; count(4) = 6");
        edge(43, steps, "of take(): 2 over 3", with(1, 2, 3, 4, 5), "take(0) = 0; count(4) = 7");
        edge(43, steps, "of round(): 2 over 3", with(1, 2, 3, 4, 5), "round(3) = 1; count(4) = 7");
        edge(43, steps, "of a crossed one that goes: 2 over 3", with(1, 2, 3, 4, 5), "cross(0) = 4; count(4) = 7");
        edge(43, steps, "of cut(): 4 over 5", with(1, 2, 3, 4, 5), "cut(2) = 4; count(4) = 7");
        edge(43, steps, "of rekey(): 4 over 5, then 1 and 2 over 9", with(1, 2, 3, 4, 5), "rekey(2, 9) = 4; count(4) = 9");
        edge(43, steps, "of part(): 2 over 3", with(1, 2, 3, 4, 5), "part(0, 1, 1) = 0; count(4) = 7");
        edge(43, steps, "of raise() none", with(1, 2, 3, 4, 5), "raise(0, 9) = 5; count(4) = 6");
        edge(43, steps, "of even(): first none, then 3 over 4", with(1, 2), "count(4) = 1; even() = 1; count(4) = 1; enter(0, 3, 0) = 2",
            "enter(0, 4, 0) = 3; count(4) = 3; even() = 2; count(4) = 4");
    }

    static void all() {
        newObject();
        enter();
        take();
        round();
        cross();
        uncross();
        cut();
        rekey();
        raise();
        meld();
        part();
        split();
        gather();
        even();
        general();
    }
}
