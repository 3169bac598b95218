/** The boundary cases of promises 15 to 17 and 35 to 42: arcs, and the trees of arcs out of a place. */
final class EdgesOfArcs {
    private static final String LIMITS = "PLACES 0 .. 7, ARCS 0 .. 19";
    private static final String AGAIN = "(as they come; a number of one that is gone is given again, the least first)";
    private static final String ENDS = "FROM, TO (unlike), COST 0 .. 1,000,000.";
    private static final String FIRST = "The first of these in that order.";
    private static final String REACHED =
        "of each other PLACE that can be reached from r (by ARCS, one behind another) one ARC TO it, so that each is reached from r by these.";
    private static final String LEAST = "The BEST of all has the least COST together, of like ones the least number as bits of ARCS.";

    /** 0 to 1 and to 2 by 10, 1 to 2 and back by 1: ARCS 0, 1 and ARCS 2, 3 are trees of like COST. */
    private static final String TWO_WAYS = "arc(0, 1, 10) = 0; arc(1, 2, 1) = 1; arc(0, 2, 10) = 2; arc(2, 1, 1) = 3";

    /** 0 to 1 .. to 7 by 0 (ARCS 0 .. 6), and by 1,000,000 each 0 to 7, 7 to 6, .. 2 to 1 (ARCS 7 .. 13). */
    private static final String LONG_WAYS = Edges.times(7, p -> "arc(" + p + ", " + (p + 1) + ", 0) = " + p) + "; arc(0, 7, 1000000) = 7;"
        + Edges.times(6, i -> "arc(" + (7 - i) + ", " + (6 - i) + ", 1000000) = " + (8 + i));

    private static void edge(int promise, String words, String which, String... rows) {
        Edges.edge(promise, words, which, rows);
    }

    private static String twenty() {
        return Edges.times(20, a -> "arc(" + a % 7 + ", 7, " + a + ") = " + a);
    }

    private static void arc() {
        String number = "An ARC: its number.";
        String no = "-1; -5.";
        edge(15, number, "0, then 1; like ones beside one another", "arc(0, 1, 5) = 0; arc(0, 1, 5) = 1; arc(1, 0, 5) = 2; count(3) = 3");
        edge(15, LIMITS, "the first and the last place", "arc(0, 7, 1) = 0; arc(7, 0, 1) = 1; arcs(0, 0) = 0; arcs(0, 1) = 7; arcs(1, 0) = 7",
            "arcs(1, 1) = 0");
        edge(15, LIMITS, "from a place too small", "arc(-1, 0, 1) = -1; arc(MIN, 0, 1) = -1; count(3) = 0; count(8) = 2");
        edge(15, LIMITS, "from a place too large", "arc(8, 0, 1) = -1; arc(MAX, 0, 1) = -1; count(3) = 0; count(8) = 2");
        edge(15, LIMITS, "to a place too small", "arc(0, -1, 1) = -1; arc(0, MIN, 1) = -1; count(3) = 0; count(8) = 2");
        edge(15, LIMITS, "to a place too large", "arc(0, 8, 1) = -1; arc(0, MAX, 1) = -1; count(3) = 0; count(8) = 2");
        edge(15, LIMITS, "the twentieth comes, the next does not", twenty(), "count(3) = 20; arcs(19, 2) = 19; arc(0, 1, 1) = -5; count(3) = 20",
            "arcs(20, 0) = -1");
        edge(15, ENDS, "alike", "arc(0, 0, 1) = -1; arc(7, 7, 1) = -1; count(8) = 2; count(3) = 0");
        edge(15, ENDS, "the least cost", "arc(0, 1, 0) = 0; arcs(0, 2) = 0");
        edge(15, ENDS, "the greatest cost", "arc(0, 1, 1000000) = 0; arcs(0, 2) = 1000000");
        edge(15, ENDS, "a cost too small", "arc(0, 1, -1) = -1; arc(0, 1, MIN) = -1; count(8) = 2; count(3) = 0");
        edge(15, ENDS, "a cost too large", "arc(0, 1, 1000001) = -1; arc(0, 1, MAX) = -1; count(8) = 2; count(3) = 0");
        edge(15, AGAIN, "the least of two that are gone", twenty(), "unarc(11) = 19; unarc(4) = 18; arc(1, 2, 3) = 4; arc(1, 2, 3) = 11",
            "arc(1, 2, 3) = -5");
        edge(15, AGAIN, "0, and not the next behind the last", "arc(0, 1, 1) = 0; arc(0, 1, 1) = 1; unarc(0) = 1; arc(2, 3, 4) = 0; arc(0, 1, 1) = 2",
            "arcs(0, 0) = 2; arcs(0, 2) = 4");
        edge(15, AGAIN, "19, of all twenty", twenty(), "unarc(19) = 19; arc(1, 2, 3) = 19; arcs(19, 1) = 2");
        edge(15, no, "-1 is told as such", "arc(0, 0, 1) = -1; count(8) = 1; count(12) = 0");
        edge(15, no, "-5 is told as such", twenty(), "arc(0, 1, 1) = -5; count(8) = 0; count(12) = 1");
        edge(15, FIRST, "-1 ahead of -5", twenty(), "arc(0, 0, 1) = -1; arc(8, 0, 1) = -1; arc(0, 1, 1000001) = -1; count(12) = 0");
    }

    private static void unarc() {
        String gone = "An ARC is gone: how many there are.";
        edge(16, gone, "the last there is", "arc(0, 1, 1) = 0; unarc(0) = 0; count(3) = 0; arcs(0, 0) = -1; best(0, 2) = 1");
        edge(16, gone, "19 of twenty", twenty(), "unarc(19) = 19; unarc(0) = 18; count(3) = 18");
        edge(16, "-2.", "none came", "unarc(0) = -2; count(9) = 1");
        edge(16, "-2.", "gone", "arc(0, 1, 1) = 0; unarc(0) = 0; unarc(0) = -2; count(9) = 1");
        edge(16, "-2.", "the next number", "arc(0, 1, 1) = 0; unarc(1) = -2; count(3) = 1");
        edge(16, "-2.", "too small", twenty(), "unarc(-1) = -2; unarc(MIN) = -2; count(9) = 2; count(8) = 0; count(3) = 20");
        edge(16, "-2.", "too large", twenty(), "unarc(20) = -2; unarc(MAX) = -2; count(9) = 2; count(8) = 0; count(3) = 20");
    }

    private static void price() {
        String was = "COST of an ARC: what it was.";
        String no = "-1; -2; -4.";
        edge(17, was, "to the least, to the greatest", "arc(0, 1, 5) = 0; price(0, 0) = 5; arcs(0, 2) = 0; price(0, 1000000) = 0",
            "arcs(0, 2) = 1000000; price(0, 7) = 1000000");
        edge(17, was, "the last of twenty", twenty(), "price(19, 5) = 19; arcs(19, 2) = 5");
        edge(17, no, "-1: too small", "arc(0, 1, 5) = 0; price(0, -1) = -1; price(0, MIN) = -1; count(8) = 2; arcs(0, 2) = 5");
        edge(17, no, "-1: too large", "arc(0, 1, 5) = 0; price(0, 1000001) = -1; price(0, MAX) = -1; count(8) = 2; arcs(0, 2) = 5");
        edge(17, no, "-2: no such arc", "arc(0, 1, 5) = 0; price(1, 5) = -2; price(-1, 5) = -2; price(20, 5) = -2; price(MIN, 5) = -2",
            "price(MAX, 5) = -2; count(9) = 5");
        edge(17, no, "-2: gone", "arc(0, 1, 5) = 0; unarc(0) = 0; price(0, 6) = -2; count(9) = 1");
        edge(17, no, "-4: it costs that", "arc(0, 1, 5) = 0; price(0, 5) = -4; price(0, 6) = 5; price(0, 6) = -4; count(11) = 2");
        edge(17, FIRST, "-1 ahead of -2", "price(0, -1) = -1; price(20, 1000001) = -1; count(9) = 0");
        edge(17, FIRST, "-2 ahead of -4: gone with that cost", "arc(0, 1, 5) = 0; unarc(0) = 0; price(0, 5) = -2; count(11) = 0");
    }

    private static void best() {
        String told = "BEST TREE OUT of a PLACE: COST (what 0), ARCS as bits (1), PLACES that it reaches, it too, as bits (2).";
        edge(35, told, "nothing is reached: it alone", "arc(0, 1, 5) = 0; best(1, 0) = 0; best(1, 1) = 0; best(1, 2) = 2; best(7, 2) = 128");
        edge(35, told, "all are reached, at the greatest cost", Edges.times(7, p -> "arc(" + p + ", " + (p + 1) + ", 1000000) = " + p),
            "best(0, 0) = 7000000; best(0, 1) = 127; best(0, 2) = 255; best(7, 1) = 0");
        edge(35, told, "the last arc's bit", Edges.each(19, "arc(0, 1, 9) = #"), "arc(0, 1, 8) = 19; best(0, 0) = 8; best(0, 1) = 524288",
            "arc(1, 2, 0) = -5");
        edge(35, told, "cost 0", "arc(0, 1, 0) = 0; best(0, 0) = 0; best(0, 1) = 1; best(0, 2) = 3");
        edge(35, REACHED, "arcs into the place itself are in no tree", "arc(1, 0, 0) = 0; arc(0, 1, 5) = 1; best(0, 0) = 5; best(0, 1) = 2",
            "best(0, 2) = 3");
        edge(35, REACHED, "arcs from places not reached are in no tree", "arc(0, 1, 5) = 0; arc(2, 1, 1) = 1; arc(2, 3, 1) = 2; best(0, 0) = 5",
            "best(0, 1) = 1; best(0, 2) = 3");
        edge(35, REACHED, "a ring that is not reached", "arc(1, 2, 1) = 0; arc(2, 1, 1) = 1; best(0, 0) = 0; best(0, 2) = 1; best(1, 1) = 1",
            "best(2, 1) = 2");
        edge(35, REACHED, "a ring of cheap arcs is opened where it is least dear", "arc(1, 2, 1) = 0; arc(2, 3, 1) = 1; arc(3, 1, 1) = 2",
            "arc(0, 1, 100) = 3; arc(0, 2, 50) = 4; arc(0, 3, 70) = 5; best(0, 0) = 52; best(0, 1) = 22");
        edge(35, REACHED, "rings in a ring", "arc(1, 2, 0) = 0; arc(2, 1, 0) = 1; arc(3, 4, 0) = 2; arc(4, 3, 0) = 3; arc(2, 3, 1) = 4",
            "arc(4, 1, 1) = 5; arc(0, 1, 20) = 6; arc(0, 4, 10) = 7; best(0, 0) = 11; best(0, 1) = 169; best(0, 2) = 31");
        edge(35, LEAST, "like costs: the least bits", TWO_WAYS, "best(0, 0) = 11; best(0, 1) = 3");
        edge(35, LEAST, "one less costs more than bits do", TWO_WAYS, "price(3, 0) = 1; best(0, 0) = 10; best(0, 1) = 12");
        edge(35, LEAST, "like arcs: the first", "arc(0, 1, 4) = 0; arc(0, 1, 4) = 1; best(0, 1) = 1; unarc(0) = 1; best(0, 1) = 2; arc(0, 1, 4) = 0",
            "best(0, 1) = 1");
        edge(35, LEAST, "a great number of bits is more than a few small ones", "arc(0, 1, 1) = 0; arc(0, 2, 1) = 1; arc(1, 3, 1) = 2",
            "arc(2, 3, 1) = 3; best(0, 1) = 7");
        edge(35, "-2: others.", "a place too small, too large", TWO_WAYS, "best(-1, 0) = -2; best(8, 0) = -2; best(MIN, 1) = -2; best(MAX, 2) = -2");
        edge(35, "-2: others.", "what -1, 3", TWO_WAYS, "best(0, -1) = -2; best(0, 3) = -2; best(0, MIN) = -2; best(0, MAX) = -2");
        edge(35, "-2: others.", "it is no refused call", "best(8, 0) = -2; best(0, 3) = -2; count(9) = 0");
    }

    private static void by() {
        String told = "The ARC by which a PLACE is reached in the BEST TREE OUT of another one.";
        String none = "NONE: none, alike, others.";
        edge(36, told, "the first, the last arc", Edges.each(19, "arc(0, 1, 9) = #"), "arc(1, 7, 9) = 19; by(0, 1) = 0; by(0, 7) = 19");
        edge(36, told, "of like arcs the first", "arc(0, 1, 4) = 0; arc(0, 1, 4) = 1; by(0, 1) = 0");
        edge(36, none, "not reached", TWO_WAYS, "by(0, 3) = -1; by(1, 0) = -1; by(7, 0) = -1");
        edge(36, none, "alike", TWO_WAYS, "by(0, 0) = -1; by(1, 1) = -1; by(7, 7) = -1");
        edge(36, none, "alike, though an arc leads into it", TWO_WAYS, "by(2, 2) = -1; by(1, 2) = 1");
        edge(36, none, "a place too small, too large", TWO_WAYS, "by(-1, 1) = -1; by(8, 1) = -1; by(0, -1) = -1; by(0, 8) = -1; by(MIN, 1) = -1",
            "by(0, MAX) = -1; by(8, 8) = -1");
    }

    private static void dearer() {
        String told = "DEARER of an ARC in the BEST TREE OUT of a PLACE; 10,000,000: however much.";
        String still = "DEARER: by how much more at most the COST of an ARC in it may be so that it is the BEST still.";
        String none = "NONE: it is not in it, others.";
        edge(37, still, "like cost, and the other has more bits: by as much", "arc(0, 1, 10) = 0; arc(0, 1, 15) = 1; dearer(0, 0) = 5",
            "price(0, 15) = 10; best(0, 1) = 1; price(0, 16) = 15; best(0, 1) = 2");
        edge(37, still, "like cost, and the other has fewer bits: one less", "arc(0, 1, 15) = 0; arc(0, 1, 10) = 1; dearer(0, 1) = 4",
            "price(1, 14) = 10; best(0, 1) = 2; price(1, 15) = 14; best(0, 1) = 1");
        edge(37, still, "not at all", TWO_WAYS, "dearer(0, 0) = 0; dearer(0, 1) = 0");
        edge(37, still, "one dearer and fewer bits: not at all", "arc(0, 1, 11) = 0; arc(0, 1, 10) = 1; dearer(0, 1) = 0");
        edge(37, still, "beyond what a cost may be", LONG_WAYS, "dearer(0, 0) = 7000000; dearer(0, 6) = 1000000; dearer(0, 1) = 6000000");
        edge(37, told, "10,000,000: no other way", "arc(0, 1, 5) = 0; dearer(0, 0) = 10000000");
        edge(37, told, "10,000,000: no other way to a place behind it", "arc(0, 1, 5) = 0; arc(1, 2, 5) = 1; arc(0, 2, 9) = 2",
            "dearer(0, 0) = 10000000; dearer(0, 1) = 4");
        edge(37, told, "10,000,000: the other way comes from a place behind it", "arc(0, 1, 5) = 0; arc(1, 2, 5) = 1; arc(2, 1, 1) = 2",
            "dearer(0, 0) = 10000000");
        edge(37, none, "it is not in it", TWO_WAYS, "dearer(0, 2) = -1; dearer(0, 3) = -1; dearer(1, 0) = -1; dearer(7, 0) = -1");
        edge(37, none, "no such arc, gone", TWO_WAYS, "dearer(0, -1) = -1; dearer(0, 4) = -1; dearer(0, 20) = -1; dearer(0, MIN) = -1",
            "dearer(0, MAX) = -1; unarc(0) = 3; dearer(0, 0) = -1; count(9) = 0");
        edge(37, none, "a place too small, too large", TWO_WAYS, "dearer(-1, 0) = -1; dearer(8, 0) = -1; dearer(MIN, 0) = -1; dearer(MAX, 0) = -1");
    }

    private static void without() {
        String told = "COST of the BEST TREE OUT of a PLACE, were an ARC not there, less COST with it; 10,000,000: fewer PLACES would be reached.";
        edge(38, told, "a like one is there: 0", TWO_WAYS, "without(0, 0) = 0; without(0, 1) = 0");
        edge(38, told, "not in the best: 0", TWO_WAYS, "without(0, 2) = 0; without(0, 3) = 0; without(7, 0) = 0; without(1, 0) = 0");
        edge(38, told, "dearer by 5, whatever the bits", "arc(0, 1, 15) = 0; arc(0, 1, 10) = 1; without(0, 1) = 5; without(0, 0) = 0");
        edge(38, told, "much dearer", LONG_WAYS, "without(0, 0) = 7000000; without(0, 1) = 6000000; without(0, 6) = 1000000; without(0, 13) = 0",
            "best(0, 1) = 127");
        edge(38, told, "10,000,000: one place fewer", "arc(0, 1, 5) = 0; without(0, 0) = 10000000; without(1, 0) = 0");
        edge(38, told, "10,000,000: a place behind it", "arc(0, 1, 5) = 0; arc(1, 2, 5) = 1; arc(0, 2, 9) = 2; without(0, 0) = 10000000",
            "without(0, 1) = 4; count(3) = 3");
        edge(38, "NONE: others.", "no such arc, gone", TWO_WAYS, "without(0, -1) = -1; without(0, 4) = -1; without(0, 20) = -1; without(0, MIN) = -1",
            "without(0, MAX) = -1; unarc(3) = 3; without(0, 3) = -1; count(9) = 0");
        edge(38, "NONE: others.", "a place too small, too large", TWO_WAYS, "without(-1, 0) = -1; without(8, 0) = -1; without(MIN, 0) = -1",
            "without(MAX, 0) = -1");
    }

    private static void cheaper() {
        String told = "By how much less at least the COST of an ARC (it may come to be below 0) has to be so that it is in the BEST TREE OUT of a PLACE; 0: it is in it; 10,000,000: never.";
        edge(39, told, "0: it is in it", TWO_WAYS, "cheaper(0, 0) = 0; cheaper(0, 1) = 0; cheaper(1, 1) = 0");
        edge(39, told, "like cost, but more bits: by 1", TWO_WAYS, "cheaper(0, 2) = 1; cheaper(0, 3) = 1; price(2, 9) = 10; best(0, 1) = 12");
        edge(39, told, "like cost will do with fewer bits", "arc(0, 1, 15) = 0; arc(0, 1, 10) = 1; cheaper(0, 0) = 5; price(0, 10) = 15",
            "best(0, 1) = 1");
        edge(39, told, "like cost will not do with more bits", "arc(0, 1, 10) = 0; arc(0, 1, 15) = 1; cheaper(0, 1) = 6; price(1, 10) = 15",
            "best(0, 1) = 1; price(1, 9) = 10; best(0, 1) = 2");
        edge(39, told, "below 0", "arc(0, 1, 0) = 0; arc(0, 1, 0) = 1; cheaper(0, 1) = 1");
        edge(39, told, "far below 0", LONG_WAYS, "cheaper(0, 7) = 1000001; cheaper(0, 13) = 7000001; cheaper(0, 12) = 6000001");
        edge(39, told, "10,000,000: it leads into the place itself", "arc(0, 1, 5) = 0; arc(1, 0, 5) = 1; cheaper(0, 1) = 10000000",
            "cheaper(1, 0) = 10000000");
        edge(39, told, "10,000,000: it comes from a place not reached", "arc(0, 1, 5) = 0; arc(2, 1, 0) = 1; arc(2, 3, 0) = 2",
            "cheaper(0, 1) = 10000000; cheaper(0, 2) = 10000000");
        edge(39, told, "10,000,000: it comes from behind the place it leads to", "arc(0, 1, 5) = 0; arc(1, 2, 5) = 1; arc(2, 1, 0) = 2",
            "cheaper(0, 2) = 10000000");
        edge(39, "NONE: others.", "no such arc, gone", TWO_WAYS, "cheaper(0, -1) = -1; cheaper(0, 4) = -1; cheaper(0, 20) = -1; cheaper(0, MIN) = -1",
            "cheaper(0, MAX) = -1; unarc(0) = 3; cheaper(0, 0) = -1; count(9) = 0");
        edge(39, "NONE: others.", "a place too small, too large", TWO_WAYS, "cheaper(-1, 0) = -1; cheaper(8, 0) = -1; cheaper(MIN, 0) = -1",
            "cheaper(MAX, 0) = -1");
    }

    private static void second() {
        String told = "Of all TREES OUT of a PLACE but the BEST that which would be next: COST (what 0), ARCS as bits (1).";
        String none = "NONE: none; others.";
        edge(40, told, "of like cost, with more bits", TWO_WAYS, "second(0, 0) = 11; second(0, 1) = 12");
        edge(40, told, "of two next ones of like cost the least bits", "arc(0, 1, 9) = 0; arc(0, 1, 5) = 1; arc(0, 1, 9) = 2; second(0, 0) = 9",
            "second(0, 1) = 1");
        edge(40, told, "dearer, with fewer bits", "arc(0, 1, 9) = 0; arc(0, 1, 5) = 1; second(0, 0) = 9; second(0, 1) = 1; best(0, 1) = 2");
        edge(40, told, "the dearest", LONG_WAYS, "second(0, 0) = 1000000; second(0, 1) = 191; unarc(0) = 13; best(0, 0) = 7000000",
            "second(0, 0) = -1");
        edge(40, none, "one tree alone", "arc(0, 1, 5) = 0; arc(1, 2, 5) = 1; arc(2, 1, 0) = 2; second(0, 0) = -1; second(0, 1) = -1");
        edge(40, none, "nothing is reached", "second(0, 0) = -1; second(7, 1) = -1; arc(0, 1, 5) = 0; second(1, 0) = -1");
        edge(40, none, "what -1, 2", TWO_WAYS, "second(0, -1) = -1; second(0, 2) = -1; second(0, MIN) = -1; second(0, MAX) = -1");
        edge(40, none, "a place too small, too large", TWO_WAYS, "second(-1, 0) = -1; second(8, 0) = -1; second(MIN, 0) = -1; second(MAX, 1) = -1");
    }

    private static void center() {
        String told = "The PLACE out of which the BEST TREE reaches most PLACES, of like ones with least COST, the first of like ones (what 0), that COST (1).";
        edge(41, told, "no arcs: all are alike", "center(0) = 0; center(1) = 0");
        edge(41, told, "most places, though dearer", "arc(0, 1, 0) = 0; arc(7, 6, 1000000) = 1; arc(6, 5, 1000000) = 2; center(0) = 7",
            "center(1) = 2000000");
        edge(41, told, "like many: the least cost", "arc(3, 4, 9) = 0; arc(5, 6, 8) = 1; center(0) = 5; center(1) = 8");
        edge(41, told, "like many of like cost: the first", "arc(5, 6, 9) = 0; arc(3, 4, 9) = 1; center(0) = 3; center(1) = 9");
        edge(41, told, "it reaches itself, too", "arc(2, 0, 3) = 0; center(0) = 2; center(1) = 3");
        edge(41, "NONE: others.", "what -1, 2", "arc(0, 1, 5) = 0; center(-1) = -1; center(2) = -1; center(MIN) = -1; center(MAX) = -1");
    }

    private static void arcs() {
        String told = "Of an ARC FROM (what 0), TO (1), COST (2).";
        edge(42, told, "the first, the last", "arc(7, 0, 1000000) = 0", Edges.times(18, a -> "arc(0, 1, 0) = " + (a + 1)), "arc(0, 7, 0) = 19",
            "arcs(0, 0) = 7; arcs(0, 1) = 0; arcs(0, 2) = 1000000; arcs(19, 0) = 0; arcs(19, 1) = 7; arcs(19, 2) = 0");
        edge(42, "NONE: others.", "no such arc", "arc(0, 1, 5) = 0; arcs(1, 0) = -1; arcs(-1, 0) = -1; arcs(20, 0) = -1; arcs(MIN, 1) = -1",
            "arcs(MAX, 2) = -1");
        edge(42, "NONE: others.", "gone", "arc(3, 4, 5) = 0; unarc(0) = 0; arcs(0, 0) = -1; arcs(0, 1) = -1; arcs(0, 2) = -1");
        edge(42, "NONE: others.", "what -1, 3", "arc(3, 4, 5) = 0; arcs(0, -1) = -1; arcs(0, 3) = -1; arcs(0, MIN) = -1; arcs(0, MAX) = -1");
    }

    static void all() {
        arc();
        unarc();
        price();
        best();
        by();
        dearer();
        without();
        cheaper();
        second();
        center();
        arcs();
    }
}
