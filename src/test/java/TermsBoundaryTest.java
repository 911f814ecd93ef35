/**
 * Each sentence of the document's terms that names a boundary case, by a test of its own that is
 * named after it. The answers were worked out by hand from the sentence.
 */
public final class TermsBoundaryTest {
    private static final int MIN = Integer.MIN_VALUE;
    private static final int MAX = Integer.MAX_VALUE;

    private static final Checks CHECKS = new Checks();
    private static final Document DOCUMENT = new Document();

    public static void main(String[] args) {
        calls();
        graphTerms();
        arcTerms();
        measureTerms();
        pathTerms();
        mixTerms();
        judgedTerms();
        rowTerms();
        boardTerms();
        CHECKS.finish();
    }

    private static void calls() {
        fiveHundredAndTwelveCalls();
    }

    private static void graphTerms() {
        numberOfNodes();
        sorts();
        leftAndRight();
        orderOfPairs();
        pairsOfPlain();
        pairsWithWays();
        pairsOfTwoSides();
    }

    private static void arcTerms() {
        otherWayRound();
        times();
        hiddenOrKnown();
        numbersOfArcs();
        groups();
        knownArcsAlone();
        outAndIn();
        bothTheSame();
        candidates();
        foundAndEmpty();
    }

    private static void measureTerms() {
        dividedByZero();
        rightNodesButB();
        eachNodeOnce();
        lessAndGreater();
        noneLead();
        withinOneGroup();
        nodesOfGroups();
    }

    private static void pathTerms() {
        nodesComeAgain();
        asTheyLead();
        pathFactors();
        wanderSteps();
        lost();
    }

    private static void mixTerms() {
        weights();
        weightsAtFirst();
        greaterMixFirst();
        likeOnesInOrder();
    }

    private static void judgedTerms() {
        overAllOfBoth();
        likeOnesAsHalf();
    }

    private static void rowTerms() {
        seedAtFirst();
        wrapping();
        zerosComeIn();
    }

    private static void boardTerms() {
        askedLatest();
        leastNumbers();
        boardAtFirst();
        firstThatFits();
    }

    private static void whatItIs(String sentence) {
        CHECKS.sentence(DOCUMENT, "What it is", sentence);
    }

    private static void terms(String sentence) {
        CHECKS.sentence(DOCUMENT, "Terms", sentence);
    }

    private static void due(String call, long got, long want) {
        CHECKS.due(call, got, want);
    }

    private static void rankedDue(ArcGuesser x, int... codes) {
        for (int k = 0; k < codes.length; k++) {
            due("ranked(" + k + ")", x.ranked(k), codes[k]);
        }
        due("ranked(" + codes.length + ")", x.ranked(codes.length), -2);
    }

    private static void shareDue(ArcGuesser x, long above, long below) {
        due("share()", x.share(), 1);
        CHECKS.board("share()", x, above, below);
    }

    private static void zeroDue(ArcGuesser x, int a, int b, int... measures) {
        for (int measure : measures) {
            CHECKS.scored(x, a, b, measure, 0, 1);
        }
    }

    private static void fiveHundredAndTwelveCalls() {
        whatItIs("An object is used for at most 512 calls after it has been made");
        ArcGuesser x = Graphs.full(12, 1);
        // 145 calls are done: one graph and 144 arcs, 12 of them refused.
        for (int call = 146; call <= 508; call++) {
            due("since, call " + call, x.since(call % 2), call % 2 == 0 ? 132 : 0);
        }
        due("split(0, 1, 0), call 509", x.split(0, 1, 0), 132);
        due("hide(0, 1, false), call 510", x.hide(0, 1, false), 1);
        due("score(0, 1, 8), call 511", x.score(0, 1, 8), 1);
        due("top(), call 512", x.top(), 1);
    }

    private static void numberOfNodes() {
        whatItIs("NODES 0 .. n - 1 (n 2 ..");
        terms("12) and a SORT");
        for (int sort = 0; sort <= 2; sort++) {
            for (int n = 2; n <= 12; n++) {
                ArcGuesser x = Graphs.without(n, sort);
                due("count(0) of " + n, x.count(0), n);
                due("group(0, 1) of " + n, x.group(0, 1), 0);
                due("group(n - 1, 1) of " + n, x.group(n - 1, 1), 0);
                due("group(-1, 1) of " + n, x.group(-1, 1), -1);
                due("group(n, 1) of " + n, x.group(n, 1), -1);
            }
            for (int n : new int[] {1, 13, 0, -1, -2, -12, MIN, MAX}) {
                due("graph(" + n + ", " + sort + ")", new ArcGuesser().graph(n, sort), -2);
            }
        }
    }

    private static void sorts() {
        terms("a SORT: 0 plain, 1 with ways, 2 two-sided");
        due("graph(4, 0)", new ArcGuesser().graph(4, 0), 6);
        due("graph(4, 1)", new ArcGuesser().graph(4, 1), 12);
        due("graph(4, 2)", new ArcGuesser().graph(4, 2), 4);
        for (int sort : new int[] {-1, 3, MIN, MAX}) {
            due("graph(4, " + sort + ")", new ArcGuesser().graph(4, sort), -2);
        }
    }

    private static void leftAndRight() {
        terms("the nodes below n / 2 (cut off) are left ones, the others right ones");
        int[] firstRight = {0, 0, 1, 1, 2, 2, 3, 3, 4, 4, 5, 5, 6};
        for (int n = 2; n <= 12; n++) {
            int right = firstRight[n];
            String of = " of " + n;
            due("last left, first right" + of, Graphs.without(n, 2).arc(right - 1, right, 0), 1);
            due("first left, last right" + of, Graphs.without(n, 2).arc(0, n - 1, 0), 1);
            due("two left" + of, Graphs.without(n, 2).arc(0, right - 1, 0), -1);
            due("two right" + of, Graphs.without(n, 2).arc(right, n - 1, 0), -1);
            due("how many PAIRS" + of, Graphs.without(n, 2).count(1), (long) right * (n - right));
        }
    }

    private static void orderOfPairs() {
        terms("PAIRS (a, b), in this order by a, then by b");
        rankedDue(Graphs.without(3, 0), 0x01, 0x02, 0x12);
        rankedDue(Graphs.without(3, 1), 0x01, 0x02, 0x10, 0x12, 0x20, 0x21);
        rankedDue(Graphs.without(3, 2), 0x01, 0x02);
        for (int sort = 0; sort <= 2; sort++) {
            for (int n = 2; n <= 12; n++) {
                rankedDue(Graphs.without(n, sort), Graphs.pairs(n, sort));
            }
        }
    }

    private static void pairsOfPlain() {
        terms("of sort 0 all with a below b");
        int[] due = {0, 0, 1, 3, 6, 10, 15, 21, 28, 36, 45, 55, 66};
        for (int n = 2; n <= 12; n++) {
            due("graph(" + n + ", 0)", new ArcGuesser().graph(n, 0), due[n]);
            noPairOfOneNode(n, 0);
        }
    }

    private static void pairsWithWays() {
        terms("1 all of two nodes");
        int[] due = {0, 0, 2, 6, 12, 20, 30, 42, 56, 72, 90, 110, 132};
        for (int n = 2; n <= 12; n++) {
            due("graph(" + n + ", 1)", new ArcGuesser().graph(n, 1), due[n]);
            noPairOfOneNode(n, 1);
        }
    }

    private static void pairsOfTwoSides() {
        terms("2 all of a left one and a right one");
        int[] due = {0, 0, 1, 2, 4, 6, 9, 12, 16, 20, 25, 30, 36};
        for (int n = 2; n <= 12; n++) {
            due("graph(" + n + ", 2)", new ArcGuesser().graph(n, 2), due[n]);
            noPairOfOneNode(n, 2);
        }
    }

    private static void noPairOfOneNode(int n, int sort) {
        ArcGuesser x = Graphs.without(n, sort);
        for (int a = 0; a < n; a++) {
            due("arc(" + a + ", " + a + ", 0)", x.arc(a, a, 0), -1);
            due("score(" + a + ", " + a + ", 0)", x.score(a, a, 0), -1);
            due("place(" + a + ", " + a + ")", x.place(a, a), -1);
            due("hide(" + a + ", " + a + ", true)", x.hide(a, a, true), -1);
        }
    }

    /** From 0 one goes to 1 alone and then by half to 2; from 2 by half to 1 and then to 0. */
    private static void otherWayRound() {
        terms("where (b, a) is told for a PAIR (a, b), that one is meant");
        ArcGuesser plain = Graphs.of(4, 0, 1, 0, 2, 1, 3, 2);
        due("arc(0, 1, 0)", plain.arc(0, 1, 0), -3);
        CHECKS.scored(plain, 0, 3, 7, 1, 1);
        CHECKS.scored(plain, 3, 0, 7, 1, 1);
        CHECKS.scored(plain, 0, 2, 9, 1, 2);
        CHECKS.scored(plain, 2, 0, 9, 1, 2);
        CHECKS.scored(plain, 1, 3, 9, 1, 4);
        plain.paths(1, 1, 1);
        CHECKS.scored(plain, 0, 1, 9, 1, 1);
        CHECKS.scored(plain, 1, 0, 9, 1, 1);
        due("place(3, 0)", plain.place(3, 0), plain.place(0, 3));
        due("place(2, 0)", plain.place(2, 0), 0);
        due("hide(3, 2, true)", plain.hide(3, 2, true), 0);
        due("hide(2, 3, true)", plain.hide(2, 3, true), 1);
        otherWayRoundOfTwoSides();
        otherWayRoundWithWays();
    }

    /** From 0 one goes to 2 alone; from 2 by half to 0. */
    private static void otherWayRoundOfTwoSides() {
        ArcGuesser sides = Graphs.of(4, 2, 2, 0, 1, 2);
        due("arc(0, 2, 0) two-sided", sides.arc(0, 2, 0), -3);
        due("arc(2, 1, 0) two-sided", sides.arc(2, 1, 0), -3);
        sides.paths(1, 1, 1);
        CHECKS.scored(sides, 0, 2, 9, 1, 1);
        CHECKS.scored(sides, 2, 0, 9, 1, 1);
        due("place(3, 1) two-sided", sides.place(3, 1), 1);
        due("hide(2, 1, true) two-sided", sides.hide(2, 1, true), 0);
        due("hide(1, 2, false) two-sided", sides.hide(1, 2, false), 1);
    }

    private static void otherWayRoundWithWays() {
        ArcGuesser ways = Graphs.of(2, 1, 1, 0);
        due("arc(0, 1, 0) with ways", ways.arc(0, 1, 0), 2);
        due("hide(0, 1, true) with ways", ways.hide(0, 1, true), 0);
        due("place(0, 1) with ways", ways.place(0, 1), 0);
        due("place(1, 0) with ways", ways.place(1, 0), -3);
        CHECKS.scored(ways, 1, 0, 8, 1, 1);
        CHECKS.scored(ways, 0, 1, 8, 0, 1);
    }

    private static void times() {
        terms("an ARC has a TIME 0 .. 9999");
        ArcGuesser x = Graphs.without(4, 0);
        due("arc(0, 1, 0)", x.arc(0, 1, 0), 1);
        due("arc(0, 2, 9999)", x.arc(0, 2, 9999), 2);
        due("arc(0, 3, 9998)", x.arc(0, 3, 9998), 3);
        for (int time : new int[] {-1, 10000, -9999, MIN, MAX}) {
            due("arc(1, 2, " + time + ")", x.arc(1, 2, time), -2);
        }
        due("since(0)", x.since(0), 3);
        due("since(1)", x.since(1), 2);
        due("since(9998)", x.since(9998), 2);
        due("since(9999)", x.since(9999), 1);
        due("hide(0, 2, true)", x.hide(0, 2, true), 1);
        due("since(10000)", x.since(10000), 0);
    }

    private static void hiddenOrKnown() {
        terms("is HIDDEN or KNOWN");
        ArcGuesser x = new ArcGuesser();
        due("arc(0, 1, 3)", x.arc(0, 1, 3), 1);
        due("count(3): it is KNOWN at first", x.count(3), 0);
        for (int i = 0; i < 3; i++) {
            due("hide(0, 1, true)", x.hide(0, 1, true), 0);
            due("hide(0, 1, true) again", x.hide(0, 1, true), 1);
            due("count(3)", x.count(3), 1);
            due("hide(0, 1, false)", x.hide(0, 1, false), 1);
            due("hide(0, 1, false) again", x.hide(0, 1, false), 0);
            due("count(3)", x.count(3), 0);
        }
    }

    /** From seed 0 the first three draws leave 3, 17 and 14 by 20. */
    private static void numbersOfArcs() {
        terms("ARCS have numbers by the order in which they were told");
        ArcGuesser x = Graphs.of(3, 0, 1, 2, 0, 1, 0, 2);
        numbersDue(x, 1, 2, 0, 1, 0, 2);
        // To be HIDDEN, or to be told again, gives no other number.
        x.hide(1, 2, true);
        x.hide(1, 2, false);
        x.arc(1, 2, 0);
        numbersDue(x, 1, 2, 0, 1, 0, 2);
        x.graph(3, 0);
        x.arc(0, 2, 9);
        x.arc(2, 1, 0);
        x.arc(1, 0, 5);
        numbersDue(x, 0, 2, 1, 2, 0, 1);
        ArcGuesser ways = Graphs.of(3, 1, 2, 1, 1, 2, 0, 1);
        numbersDue(ways, 2, 1, 1, 2, 0, 1);
    }

    private static void numbersDue(ArcGuesser x, int... ends) {
        int[] left = {3, 17, 14};
        for (int number = 0; number < left.length; number++) {
            due("split(0, 20, " + left[number] + ")", x.split(0, 20, left[number]), 1);
            due("hide: what the ARC numbered " + number + " was",
                    x.hide(ends[2 * number], ends[2 * number + 1], true), 1);
        }
    }

    private static void groups() {
        terms("Each node is in a GROUP 0 .. 3 (0 at first)");
        ArcGuesser x = Graphs.without(12, 1);
        for (int node = 0; node < 12; node++) {
            due("group(" + node + ", 3): 0 at first", x.group(node, 3), 0);
        }
        for (int group : new int[] {-1, 4, -3, MIN, MAX}) {
            due("group(11, " + group + ")", x.group(11, group), -2);
        }
        due("group(11, 0)", x.group(11, 0), 3);
        due("group(11, 1)", x.group(11, 1), 0);
        due("group(11, 2)", x.group(11, 2), 1);
        due("group(11, 3)", x.group(11, 3), 2);
    }

    private static void knownArcsAlone() {
        terms("All measures are of KNOWN ARCS alone");
        for (int sort = 0; sort <= 2; sort++) {
            ArcGuesser x = Graphs.full(4, sort);
            due("since(0)", x.since(0), x.count(1));
            zeroDue(x, 0, 3, 0, 1, 2, 3, 4, 5, 6, 7, 8, 9, 10, 11);
            zeroDue(x, 1, 2, 0, 1, 2, 3, 4, 5, 6, 7, 8, 9, 10, 11);
            x.hide(0, 3, false);
            CHECKS.scored(x, 0, 3, 6, 1, 1);
            CHECKS.scored(x, 0, 3, 8, 1, 1);
            CHECKS.scored(x, 0, 3, 10, 1, sort == 1 ? 16 : 8);
        }
    }

    /** The node between is the first, the second, the last but one and the last of all. */
    private static void outAndIn() {
        terms("OUT(x) are the nodes to which they lead from x,"
                + " IN(x) those from which they lead to x");
        for (int z : new int[] {0, 1, 10, 11}) {
            // OUT(z) is 3 and 4, IN(z) is 2, 5 and 6; OUT(2) is z and 7, IN(3) is z alone.
            ArcGuesser x = Graphs.of(12, 1, 2, z, z, 3, z, 4, 5, z, 6, z, 2, 7);
            CHECKS.scored(x, 2, 3, 0, 1, 1);
            CHECKS.scored(x, 2, 3, 1, 1, 2);
            CHECKS.scored(x, 2, 3, 5, 1, 2);
            CHECKS.scored(x, 2, 3, 6, 2, 1);
            CHECKS.scored(x, 2, 3, 7, 1, 1);
            CHECKS.scored(x, 2, 3, 8, 1, 2);
            CHECKS.scored(x, 2, 3, 9, 1, 4);
            zeroDue(x, 3, 2, 0, 1, 2, 3, 4, 5, 6, 7, 8, 9);
            CHECKS.scored(x, z, 3, 10, 1, 24);
        }
        // By 0 and then 11, and by 11 and then 0, in three ARCS.
        CHECKS.scored(Graphs.of(12, 1, 2, 0, 0, 11, 11, 3), 2, 3, 7, 1, 1);
        CHECKS.scored(Graphs.of(12, 1, 2, 11, 11, 0, 0, 3), 2, 3, 7, 1, 1);
        CHECKS.scored(Graphs.of(12, 1, 2, 0, 0, 11, 11, 3), 3, 2, 7, 0, 1);
    }

    private static void bothTheSame() {
        terms("(of sorts 0 and 2 both the same)");
        int[] middles = {1, 2, 3};
        for (int middle : middles) {
            ArcGuesser x = Graphs.of(5, 0, 0, middle, middle, 4);
            CHECKS.scored(x, 0, 4, 0, 1, 1);
            CHECKS.scored(x, 0, 4, 6, 1, 1);
        }
        // Of sort 1 they are not: both lead to 4, and none from it.
        ArcGuesser ways = Graphs.of(5, 1, 0, 4, 1, 4);
        CHECKS.scored(ways, 0, 1, 0, 0, 1);
        CHECKS.scored(ways, 0, 4, 6, 2, 1);
        CHECKS.scored(ways, 4, 0, 6, 0, 1);
    }

    private static void candidates() {
        terms("CANDIDATES are the PAIRS without a KNOWN ARC");
        int[] pairs = {66, 132, 36};
        for (int sort = 0; sort <= 2; sort++) {
            due("count(4) without ARCS", Graphs.without(12, sort).count(4), pairs[sort]);
            ArcGuesser x = Graphs.full(12, sort);
            due("count(4), all KNOWN", x.count(4), 0);
            due("hide(0, 11, true)", x.hide(0, 11, true), 0);
            due("count(4), one HIDDEN", x.count(4), 1);
            rankedDue(x, 11);
            x.since(0);
            due("count(4), all HIDDEN", x.count(4), pairs[sort]);
        }
    }

    private static void foundAndEmpty() {
        terms("FOUND ones are those that have a HIDDEN one, EMPTY ones those that have none");
        for (int sort = 0; sort <= 2; sort++) {
            ArcGuesser none = Graphs.without(12, sort);
            due("among(all) without ARCS", none.among(none.count(4)), 0);
            due("share(): all are EMPTY", none.share(), -3);
            ArcGuesser all = Graphs.full(12, sort);
            due("share(): nothing is FOUND or EMPTY", all.share(), -3);
            all.since(0);
            due("among(all), all HIDDEN", all.among(all.count(4)), all.count(1));
            due("share(): all are FOUND", all.share(), -3);
        }
        ArcGuesser one = Graphs.of(3, 2, 0, 1);
        due("share(): one is EMPTY, none FOUND", one.share(), -3);
        one.hide(0, 1, true);
        due("share(): one is EMPTY, one FOUND", one.share(), 1);
    }

    private static void dividedByZero() {
        terms("0 where something would be divided by 0");
        // Neither A nor B has a node; nothing leads anywhere.
        for (int sort = 0; sort <= 2; sort++) {
            zeroDue(Graphs.without(4, sort), 0, 3, 1, 2, 3, 4, 5, 8, 9, 10);
        }
        // (0, 3): A has 1, B none; then A none and B 2.
        zeroDue(Graphs.of(4, 0, 0, 1), 0, 3, 1, 2, 3, 4, 5, 8, 9);
        zeroDue(Graphs.of(4, 0, 2, 3), 0, 3, 1, 2, 3, 4, 5, 8, 9);
        zeroDue(Graphs.of(4, 1, 0, 1), 0, 3, 1, 2, 3, 4, 5, 8, 9);
        zeroDue(Graphs.of(4, 1, 2, 3), 0, 3, 1, 2, 3, 4, 5, 8, 9);
        // Left 0 and 1, right 2 and 3. (0, 3): A has 2 and B none, as 3 has no ARC; then A none
        // and B 2, by 1; then A has 3 and B none, as the only right node of 0 is 3 itself.
        zeroDue(Graphs.of(4, 2, 0, 2), 0, 3, 1, 2, 3, 4, 5, 8, 9);
        zeroDue(Graphs.of(4, 2, 1, 2, 1, 3), 0, 3, 1, 2, 3, 4, 5, 8, 9);
        zeroDue(Graphs.of(4, 2, 0, 3), 0, 3, 1, 2, 3, 4, 5, 9);
    }

    private static void rightNodesButB() {
        terms("of sort 2 the right nodes but b that have an ARC (KNOWN) with a left node of IN(b)");
        // Left 0 and 1, right 2, 3 and 4; (0, 2) itself is KNOWN: A has 2 and 3, B 3 and 4.
        ArcGuesser x = Graphs.of(5, 2, 0, 2, 0, 3, 1, 2, 1, 4);
        CHECKS.scored(x, 0, 2, 0, 1, 1);
        CHECKS.scored(x, 0, 2, 1, 1, 3);
        CHECKS.scored(x, 0, 2, 2, 1, 2);
        x.hide(1, 4, true);
        CHECKS.scored(x, 0, 2, 1, 1, 2);
        x.hide(1, 2, true);
        CHECKS.scored(x, 0, 2, 0, 1, 1);
        x.hide(0, 3, true);
        CHECKS.scored(x, 0, 2, 0, 0, 1);
        ArcGuesser full = Graphs.full(12, 2);
        CHECKS.scored(full, 0, 11, 0, 5, 1);
        CHECKS.scored(full, 0, 11, 1, 5, 6);
        CHECKS.scored(full, 0, 11, 2, 10, 11);
        CHECKS.scored(full, 0, 11, 3, 1, 1);
        CHECKS.scored(full, 0, 11, 4, 5, 6);
        CHECKS.scored(full, 0, 11, 5, 5, 6);
    }

    private static void eachNodeOnce() {
        terms("1 M by A and B together (each node once)."
                + " 2 twice M by A and B (both numbers added up)");
        // A and B the same two nodes; then no node in both.
        ArcGuesser same = Graphs.of(4, 0, 0, 1, 0, 2, 1, 3, 2, 3);
        CHECKS.scored(same, 0, 3, 1, 1, 1);
        CHECKS.scored(same, 0, 3, 2, 1, 1);
        ArcGuesser apart = Graphs.of(6, 0, 0, 1, 0, 2, 3, 5, 4, 5);
        CHECKS.scored(apart, 0, 5, 1, 0, 1);
        CHECKS.scored(apart, 0, 5, 2, 0, 1);
        // The fullest ones: A and B have 11 nodes each, 10 of them in both, 12 together.
        ArcGuesser full = Graphs.full(12, 0);
        CHECKS.scored(full, 0, 11, 1, 5, 6);
        CHECKS.scored(full, 0, 11, 2, 10, 11);
    }

    private static void lessAndGreater() {
        terms("3 M by the less of both, 4 by the greater one");
        // (0, 3): A 1 and 2, B 2; (0, 4): A 1 and 2, B 2 and 3; both alike there.
        ArcGuesser x = Graphs.of(5, 1, 0, 1, 0, 2, 2, 3, 2, 4, 3, 4);
        CHECKS.scored(x, 0, 3, 3, 1, 1);
        CHECKS.scored(x, 0, 3, 4, 1, 2);
        CHECKS.scored(x, 0, 4, 3, 1, 2);
        CHECKS.scored(x, 0, 4, 4, 1, 2);
        // (2, 1): A 3 and 4, B 0.
        CHECKS.scored(x, 2, 1, 3, 0, 1);
        CHECKS.scored(x, 2, 1, 4, 0, 1);
    }

    private static void noneLead() {
        terms("1 by the least number of KNOWN ARCS that lead from a to b (0: none do)");
        int[] chain = new int[22];
        for (int i = 0; i < 11; i++) {
            chain[2 * i] = i;
            chain[2 * i + 1] = i + 1;
        }
        for (int sort = 0; sort <= 1; sort++) {
            ArcGuesser x = Graphs.of(12, sort, chain);
            for (int b = 1; b <= 11; b++) {
                CHECKS.scored(x, 0, b, 8, 1, b);
            }
            CHECKS.scored(x, 11, 0, 8, sort == 0 ? 1 : 0, sort == 0 ? 11 : 1);
            x.hide(5, 6, true);
            CHECKS.scored(x, 0, 5, 8, 1, 5);
            CHECKS.scored(x, 0, 6, 8, 0, 1);
            CHECKS.scored(x, 5, 6, 8, 0, 1);
            CHECKS.scored(x, 6, 11, 8, 1, 5);
        }
        ArcGuesser sides = Graphs.of(12, 2, 0, 6, 1, 6, 1, 7, 2, 7, 2, 8, 3, 8, 3, 9, 4, 9, 4, 10,
                5, 10, 5, 11);
        CHECKS.scored(sides, 0, 11, 8, 1, 11);
        CHECKS.scored(sides, 0, 10, 8, 1, 9);
        sides.hide(5, 11, true);
        CHECKS.scored(sides, 0, 11, 8, 0, 1);
    }

    private static void withinOneGroup() {
        terms("of sorts 0 and 2 an ARC within one GROUP counts twice, and one between both once");
        for (int sort = 0; sort <= 2; sort++) {
            ArcGuesser x = Graphs.of(2, sort, 0, 1);
            CHECKS.scored(x, 0, 1, 10, 1, sort == 1 ? 4 : 2);
            x.group(1, 3);
            CHECKS.scored(x, 0, 1, 10, 1, 1);
            x.group(0, 3);
            CHECKS.scored(x, 0, 1, 10, 1, sort == 1 ? 4 : 2);
        }
        ArcGuesser ways = Graphs.of(2, 1, 0, 1);
        ways.group(1, 2);
        CHECKS.scored(ways, 1, 0, 10, 0, 1);
        // Told from the greater GROUP to the less one as well, and from both sides.
        ArcGuesser plain = Graphs.of(4, 0, 0, 3, 1, 2);
        plain.group(2, 1);
        plain.group(0, 1);
        CHECKS.scored(plain, 0, 1, 10, 1, 2);
        CHECKS.scored(plain, 1, 2, 10, 1, 2);
        CHECKS.scored(plain, 0, 2, 10, 0, 1);
        // Left 0 and 1, right 2 and 3: the ARC 1-2 leads from the GROUP of 3 to that of 0.
        ArcGuesser sides = Graphs.of(4, 2, 0, 3, 1, 2);
        sides.group(0, 1);
        sides.group(2, 1);
        CHECKS.scored(sides, 0, 3, 10, 1, 2);
    }

    private static void nodesOfGroups() {
        terms("by the number of nodes of the one times that of the other");
        ArcGuesser full = Graphs.full(12, 0);
        CHECKS.scored(full, 0, 1, 10, 11, 12);
        full.group(0, 1);
        // One node and eleven; eleven and eleven.
        CHECKS.scored(full, 0, 1, 10, 1, 1);
        CHECKS.scored(full, 1, 2, 10, 10, 11);
        full.hide(0, 11, true);
        CHECKS.scored(full, 0, 1, 10, 10, 11);
        CHECKS.scored(Graphs.full(12, 1), 3, 2, 10, 11, 12);
        CHECKS.scored(Graphs.full(12, 2), 0, 11, 10, 1, 2);
        CHECKS.scored(Graphs.of(12, 1, 7, 3), 0, 1, 10, 1, 144);
        ArcGuesser nines = Graphs.of(12, 1, 7, 3);
        nines.group(0, 1);
        nines.group(1, 2);
        nines.group(2, 3);
        CHECKS.scored(nines, 3, 4, 10, 1, 81);
        CHECKS.scored(nines, 0, 1, 10, 0, 1);
    }

    private static void nodesComeAgain() {
        terms("(nodes may come again; a way goes along KNOWN ARCS as they lead;");
        // From 0 to 1 goes 0-1-0-1, in three ARCS.
        CHECKS.scored(Graphs.of(2, 0, 0, 1), 0, 1, 7, 1, 1);
        CHECKS.scored(Graphs.of(2, 2, 0, 1), 0, 1, 7, 1, 1);
        CHECKS.scored(Graphs.of(2, 1, 0, 1, 1, 0), 0, 1, 7, 1, 1);
        // The most: 10 ways of two ARCS, and 1 + 10 times 11 of three.
        ArcGuesser full = Graphs.full(12, 1);
        CHECKS.scored(full, 0, 11, 7, 121, 1);
        full.paths(0, 1, 2);
        CHECKS.scored(full, 0, 11, 7, 111, 1);
    }

    private static void asTheyLead() {
        terms("a way goes along KNOWN ARCS as they lead");
        CHECKS.scored(Graphs.of(2, 1, 0, 1), 0, 1, 7, 0, 1);
        ArcGuesser x = Graphs.of(3, 1, 0, 1, 1, 2);
        CHECKS.scored(x, 0, 2, 7, 1, 1);
        CHECKS.scored(x, 2, 0, 7, 0, 1);
        x.hide(1, 2, true);
        CHECKS.scored(x, 0, 2, 7, 0, 1);
    }

    /** In a triangle one way of two ARCS and three of three lead from one node to another. */
    private static void pathFactors() {
        terms("v and w 0 .. 9, at first 1 and 1");
        ArcGuesser x = Graphs.full(3, 0);
        CHECKS.scored(x, 0, 1, 7, 4, 1);
        int[][] taken = {{0, 0, 0}, {9, 0, 9}, {0, 9, 27}, {9, 9, 36}, {1, 0, 1}, {0, 1, 3}};
        for (int[] row : taken) {
            due("paths(" + row[0] + ", " + row[1] + ", 2)", x.paths(row[0], row[1], 2), 1);
            CHECKS.scored(x, 0, 1, 7, row[2], 1);
        }
        for (int wrong : new int[] {-1, 10, -9, MIN, MAX}) {
            due("paths(" + wrong + ", 1, 2)", x.paths(wrong, 1, 2), -2);
            due("paths(1, " + wrong + ", 2)", x.paths(1, wrong, 2), -2);
        }
        CHECKS.scored(x, 0, 1, 7, 3, 1);
    }

    private static void wanderSteps() {
        terms("s times (1 or 2; at first 2)");
        ArcGuesser x = Graphs.full(3, 0);
        CHECKS.scored(x, 0, 1, 9, 1, 4);
        due("paths(1, 1, 1)", x.paths(1, 1, 1), 1);
        CHECKS.scored(x, 0, 1, 9, 1, 2);
        for (int wrong : new int[] {0, 3, -1, -2, MIN, MAX}) {
            due("paths(1, 1, " + wrong + ")", x.paths(1, 1, wrong), -2);
            CHECKS.scored(x, 0, 1, 9, 1, 2);
        }
        due("paths(1, 1, 2)", x.paths(1, 1, 2), 1);
        CHECKS.scored(x, 0, 1, 9, 1, 4);
    }

    private static void lost() {
        terms("where OUT is empty one is lost");
        // From 0 by thirds to 1, 2 and 3; from 1 to 4; from 2 by half to 3 and to 4; 3 has no OUT.
        ArcGuesser x = Graphs.of(5, 1, 0, 1, 0, 2, 0, 3, 1, 4, 2, 4, 2, 3);
        CHECKS.scored(x, 0, 4, 9, 1, 2);
        CHECKS.scored(x, 0, 3, 9, 1, 6);
        CHECKS.scored(x, 3, 4, 9, 0, 1);
        CHECKS.scored(x, 1, 4, 9, 0, 1);
        x.paths(1, 1, 1);
        CHECKS.scored(x, 0, 4, 9, 0, 1);
        CHECKS.scored(x, 0, 3, 9, 1, 3);
        CHECKS.scored(x, 3, 4, 9, 0, 1);
        CHECKS.scored(x, 1, 4, 9, 1, 1);
        x.since(0);
        CHECKS.scored(x, 1, 4, 9, 0, 1);
    }

    private static void weights() {
        terms("each times its WEIGHT (-99 .. 99;");
        // The PAIR (0, 2) of the chain 0-1-2 has 1 of measure 0 and 1 / 2 of measure 8.
        ArcGuesser x = Graphs.of(3, 0, 0, 1, 1, 2);
        due("weigh(0, 99)", x.weigh(0, 99), 101);
        CHECKS.scored(x, 0, 2, 11, 99, 1);
        due("weigh(0, -99)", x.weigh(0, -99), 199);
        CHECKS.scored(x, 0, 2, 11, -99, 1);
        due("weigh(8, 99)", x.weigh(8, 99), 100);
        CHECKS.scored(x, 0, 2, 11, -99, 2);
        for (int wrong : new int[] {-100, 100, MIN, MAX}) {
            due("weigh(0, " + wrong + ")", x.weigh(0, wrong), -2);
        }
        CHECKS.scored(x, 0, 2, 11, -99, 2);
        due("weigh(0, 0)", x.weigh(0, 0), 1);
        due("weigh(8, 0)", x.weigh(8, 0), 199);
        CHECKS.scored(x, 0, 2, 11, 0, 1);
        heaviestMix();
    }

    /** The fullest graph has 10, 5/6, four times 10/11, 121, 1089, 1, 10/121 and 11/12. */
    private static void heaviestMix() {
        ArcGuesser x = Graphs.full(12, 1);
        x.paths(9, 9, 2);
        Fraction sum = Fraction.of(10 + 121 + 1089 + 1, 1).plus(Fraction.of(5, 6))
                .plus(Fraction.of(40, 11)).plus(Fraction.of(10, 121)).plus(Fraction.of(11, 12));
        for (int weight : new int[] {99, -99}) {
            for (int measure = 0; measure <= 10; measure++) {
                x.weigh(measure, weight);
            }
            Fraction due = sum.times(Fraction.of(weight, 1));
            CHECKS.scored(x, 0, 1, 11, due.above.longValueExact(), due.below.longValueExact());
        }
    }

    private static void weightsAtFirst() {
        terms("at first 1 for 0, else 0");
        ArcGuesser x = Graphs.full(3, 0);
        CHECKS.scored(x, 0, 1, 11, 1, 1);
        due("weight(0)", x.weight(0), 101);
        for (int measure = 1; measure <= 10; measure++) {
            due("weight(" + measure + ")", x.weight(measure), 100);
        }
    }

    /** In the chain 0-1-2-3 measure 6 of (0, 2) and (1, 3) is 2, that of (0, 3) 1. */
    private static void greaterMixFirst() {
        terms("THE RANKING are the CANDIDATES, those of greater MIX first");
        ArcGuesser x = Graphs.of(4, 0, 0, 1, 1, 2, 2, 3);
        x.weigh(0, 0);
        x.weigh(6, 1);
        rankedDue(x, 0x02, 0x13, 0x03);
        x.weigh(6, -1);
        rankedDue(x, 0x03, 0x02, 0x13);
        x.hide(0, 1, true);
        // (0, 1) has 0; (0, 2) 0; (0, 3) 0; (1, 3) 1.
        rankedDue(x, 0x01, 0x02, 0x03, 0x13);
        x.weigh(6, 99);
        rankedDue(x, 0x13, 0x01, 0x02, 0x03);
        rankedDue(Graphs.full(4, 0));
    }

    private static void likeOnesInOrder() {
        terms("of like ones in the order of PAIRS");
        for (int sort = 0; sort <= 2; sort++) {
            ArcGuesser none = Graphs.without(12, sort);
            rankedDue(none, Graphs.pairs(12, sort));
            ArcGuesser hidden = Graphs.full(12, sort);
            hidden.since(0);
            rankedDue(hidden, Graphs.pairs(12, sort));
        }
        ArcGuesser x = Graphs.of(4, 0, 0, 1, 1, 2, 2, 3);
        x.weigh(0, -1);
        rankedDue(x, 0x03, 0x02, 0x13);
        x.weigh(0, 0);
        rankedDue(x, 0x02, 0x03, 0x13);
        // Like as sums alone. Measure 8 is 1 / 2 of (0, 2) and (1, 3), 1 / 3 of (0, 3); measure 6
        // is 2, 2 and 1.
        x.weigh(8, 6);
        x.weigh(6, -1);
        rankedDue(x, 0x02, 0x03, 0x13);
        x.weigh(8, 7);
        rankedDue(x, 0x02, 0x13, 0x03);
        x.weigh(8, 5);
        rankedDue(x, 0x03, 0x02, 0x13);
    }

    private static void overAllOfBoth() {
        terms("over all of a FOUND and an EMPTY one, the FOUND one has the greater MIX");
        // FOUND is (0, 2) of 1; EMPTY are (0, 3), (1, 3), (2, 3) of 0.
        ArcGuesser x = Graphs.of(4, 0, 0, 1, 1, 2, 0, 2);
        x.hide(0, 2, true);
        shareDue(x, 1, 1);
        x.weigh(0, -99);
        shareDue(x, 0, 1);
        // 66 of 132 are FOUND, all with the less node first: 66 times 66 are held together.
        ArcGuesser half = Graphs.without(12, 1);
        for (int code : Graphs.pairs(12, 0)) {
            half.arc(code / 16, code % 16, 0);
        }
        due("since(0)", half.since(0), 66);
        shareDue(half, 1, 2);
        // All but one are EMPTY; all but one are FOUND.
        ArcGuesser few = Graphs.of(12, 1, 11, 10);
        few.since(0);
        shareDue(few, 1, 2);
        ArcGuesser many = Graphs.without(12, 1);
        for (int code : Graphs.pairs(12, 1)) {
            if (code != 0x01) {
                many.arc(code / 16, code % 16, 0);
            }
        }
        due("since(0)", many.since(0), 131);
        shareDue(many, 1, 2);
    }

    private static void likeOnesAsHalf() {
        terms("like ones counted as a half");
        // FOUND is (0, 2) of 1; EMPTY are (1, 3) of 1, (0, 3) of 0.
        ArcGuesser x = Graphs.of(4, 0, 0, 1, 1, 2, 2, 3, 0, 2);
        x.hide(0, 2, true);
        shareDue(x, 3, 4);
        x.weigh(0, -1);
        shareDue(x, 1, 4);
        x.weigh(0, 0);
        shareDue(x, 1, 2);
        // Like by fractions only: measure 6 is 2, 2 and 1, measure 8 1 / 2, 1 / 2 and 1 / 3.
        x.weigh(8, 6);
        x.weigh(6, -1);
        shareDue(x, 1, 2);
        x.weigh(8, 7);
        shareDue(x, 3, 4);
        x.weigh(8, 5);
        shareDue(x, 1, 4);
    }

    /** A lone ARC is HIDDEN where its draw leaves r by q; by all q up to 20 the draw is known. */
    private static void firstDrawDue(int seed, int draw) {
        ArcGuesser x = Graphs.of(2, 0, 0, 1);
        for (int q = 1; q <= 20; q++) {
            for (int r = 0; r < q; r++) {
                due("split(" + seed + ", " + q + ", " + r + ")", x.split(seed, q, r),
                        draw % q == r ? 1 : 0);
            }
        }
    }

    private static void seedAtFirst() {
        terms("z is the seed at first");
        // From 0 z is 1013904223; from 1 it is 1015568748; from -1 1012239698; by 256 each.
        firstDrawDue(0, 3960563);
        firstDrawDue(1, 3967065);
        firstDrawDue(-1, 3954061);
        // Each ROW starts anew from its seed.
        ArcGuesser x = Graphs.of(3, 0, 0, 1, 0, 2);
        for (int i = 0; i < 3; i++) {
            due("split(0, 20, 3)", x.split(0, 20, 3), 1);
            due("split(0, 20, 17)", x.split(0, 20, 17), 1);
            due("sample(" + i + ")", x.sample(i), 1);
        }
    }

    private static void wrapping() {
        terms("for each draw z becomes 1664525 z + 1013904223 (an int, wrapping)");
        // z becomes 0, 255, 256 and the greatest int.
        firstDrawDue(634785765, 0);
        firstDrawDue(122584096, 0);
        firstDrawDue(103732453, 1);
        firstDrawDue(-1493846240, 8388607);
        // From 0 z becomes 1013904223, 1196435762 and, past the greatest int, -775096599.
        ArcGuesser x = Graphs.full(3, 0);
        due("split(0, 20, 14)", x.split(0, 20, 14), 1);
        due("hide(1, 2, true): the third", x.hide(1, 2, true), 1);
    }

    private static void zerosComeIn() {
        terms("it gives z shifted right by 8 (zeros come in)");
        // z becomes -1, -256, -257 and the least int.
        firstDrawDue(653637408, 16777215);
        firstDrawDue(1165839077, 16777215);
        firstDrawDue(1184690720, 16777214);
        firstDrawDue(-1512697883, 8388608);
        // From the greatest int z is -1135243950, from the least one -1133579425.
        firstDrawDue(MAX, 12342669);
        firstDrawDue(MIN, 12349171);
    }

    private static void askedLatest() {
        terms("THE BOARD shows the fraction that was asked latest");
        ArcGuesser x = Graphs.of(4, 0, 0, 1, 1, 2, 2, 3, 0, 2);
        x.hide(0, 2, true);
        CHECKS.scored(x, 0, 3, 8, 1, 3);
        shareDue(x, 3, 4);
        CHECKS.scored(x, 0, 3, 8, 1, 3);
        due("learn(2, 1)", x.learn(1 << 1, 1), 1);
        // Measure 1: (0, 2) 1 / 2, (1, 3) 1 / 2, (0, 3) 0.
        CHECKS.board("learn(2, 1)", x, 3, 4);
        CHECKS.scored(x, 0, 3, 11, 0, 1);
        due("sample(0)", x.sample(0), 1);
        // The first draw from 0 leaves 1 by 2: (0, 2) is held against (1, 3).
        CHECKS.board("sample(0)", x, 1, 2);
        askingNoFraction(x);
        CHECKS.board("calls that ask no fraction", x, 1, 2);
    }

    private static void askingNoFraction(ArcGuesser x) {
        x.count(4);
        x.weight(0);
        x.weigh(3, 5);
        x.ranked(0);
        x.place(0, 3);
        x.among(1);
        x.paths(2, 2, 2);
        x.group(0, 2);
        x.hide(0, 1, true);
        x.arc(0, 3, 0);
        x.since(2);
        x.split(1, 2, 1);
    }

    private static void leastNumbers() {
        terms("in least numbers");
        ArcGuesser x = Graphs.of(4, 0, 0, 1, 1, 2, 2, 3);
        // 2 by 3; 1 by 2; 0 by 2.
        CHECKS.scored(x, 1, 3, 2, 2, 3);
        CHECKS.scored(x, 0, 2, 1, 1, 2);
        CHECKS.scored(x, 0, 3, 2, 0, 1);
        // -3 by 2; -2 by 2; 2 times 3 by 4 times 4; 16 times that less 1.
        x.weigh(0, 0);
        x.weigh(1, -3);
        CHECKS.scored(x, 0, 2, 11, -3, 2);
        x.weigh(1, -2);
        CHECKS.scored(x, 0, 2, 11, -1, 1);
        CHECKS.scored(x, 0, 2, 10, 3, 8);
        x.weigh(10, 16);
        CHECKS.scored(x, 0, 2, 11, 5, 1);
    }

    private static void boardAtFirst() {
        terms("(0 / 1 at first)");
        ArcGuesser x = new ArcGuesser();
        CHECKS.board("new", x, 0, 1);
        x.graph(3, 0);
        CHECKS.board("graph(3, 0)", x, 0, 1);
        x.arc(0, 1, 0);
        CHECKS.scored(x, 0, 1, 10, 2, 9);
        due("graph(1, 0)", x.graph(1, 0), -2);
        CHECKS.board("graph(1, 0), refused", x, 2, 9);
        x.graph(3, 0);
        CHECKS.board("graph(3, 0)", x, 0, 1);
    }

    /** RefusalTest holds every refused call; here those alone of which two answers fit. */
    private static void firstThatFits() {
        terms("-1 no such node, PAIR, ARC, -2 a number outside what is told,"
                + " -3 not as things stand; the first of these that fits");
        ArcGuesser x = Graphs.of(3, 0, 0, 1);
        due("arc(3, 0, 10000): -1 and -2", x.arc(3, 0, 10000), -1);
        due("arc(1, 1, -1): -1 and -2", x.arc(1, 1, -1), -1);
        due("arc(0, 1, -1): -2 and -3", x.arc(0, 1, -1), -2);
        due("arc(0, 1, 10000): -2 and -3", x.arc(0, 1, 10000), -2);
        due("arc(0, 1, 9999): -3", x.arc(0, 1, 9999), -3);
        due("group(3, 4): -1 and -2", x.group(3, 4), -1);
        due("score(2, 2, 12): -1 and -2", x.score(2, 2, 12), -1);
        due("learn(0, 1): -2 and -3", x.learn(0, 1), -2);
        due("learn(1, 0): -2 and -3", x.learn(1, 0), -2);
        due("learn(1, 1): -3", x.learn(1, 1), -3);
    }
}
