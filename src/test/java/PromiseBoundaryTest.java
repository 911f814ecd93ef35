import java.util.Set;
import java.util.TreeSet;

/**
 * Each sentence of a promise that names a boundary case, by a test of its own that is named after
 * it: the last value that is taken and the first that is refused, nothing there and all there. The
 * answers were worked out by hand from the sentence. RefusalTest shows that a refused call changes
 * nothing.
 */
public final class PromiseBoundaryTest {
    private static final int MIN = Integer.MIN_VALUE;
    private static final int MAX = Integer.MAX_VALUE;
    private static final int[] PAIRS_OF_TWELVE = {66, 132, 36};

    private static final Checks CHECKS = new Checks();
    private static final Document DOCUMENT = new Document();
    private static final Set<Integer> PROMISES = new TreeSet<>();

    public static void main(String[] args) {
        graphs();
        arcs();
        hiding();
        numbers();
        scores();
        ranking();
        judging();
        learning();
        CHECKS.part("all promises");
        CHECKS.due("how many promises have a test", PROMISES.size(), 20);
        CHECKS.finish();
    }

    private static void graphs() {
        newObject();
        graphTaken();
        graphAsAtFirst();
        graphRefused();
    }

    private static void arcs() {
        arcTaken();
        arcRefused();
        arcThereAlready();
        groupBefore();
        groupRefused();
        hideWhatItWas();
        hideRefused();
    }

    private static void hiding() {
        sinceThisTime();
        sinceNoArcs();
        splitLeft();
        splitOthersKnown();
        splitRefused();
    }

    private static void numbers() {
        countTaken();
        countRefused();
        pathsTaken();
        pathsRefused();
        weighTaken();
        weighRefused();
        weightTaken();
        weightRefused();
    }

    private static void scores() {
        scoreTaken();
        scoreRefused();
        topSigned();
        bottomAboveZero();
    }

    private static void ranking() {
        rankedTaken();
        rankedRefused();
        placeTaken();
        placeRefused();
        placeOfNoCandidate();
        amongTaken();
        amongRefused();
    }

    private static void judging() {
        shareTaken();
        shareRefused();
        sampleOneEmpty();
        sampleInOrder();
        samplePlaces();
        sampleRefused();
    }

    private static void learning() {
        learnTop();
        learnBits();
        learnOthersZero();
        learnLikeOnes();
        learnRefusedBits();
        learnRefusedTop();
        learnRefusedAsShare();
    }

    private static void promise(int number, String sentence) {
        PROMISES.add(number);
        CHECKS.sentence(DOCUMENT, "Promise " + number, sentence);
    }

    private static void due(String call, long got, long want) {
        CHECKS.due(call, got, want);
    }

    private static void weightsDue(ArcGuesser x, int... weights) {
        for (int measure = 0; measure <= 10; measure++) {
            int weight = measure < weights.length ? weights[measure] : 0;
            due("weight(" + measure + ")", x.weight(measure), 100 + weight);
        }
    }

    private static void newObject() {
        promise(1, "Two nodes, plain, without ARCS.");
        ArcGuesser x = new ArcGuesser();
        due("count(0)", x.count(0), 2);
        due("count(1)", x.count(1), 1);
        due("count(2)", x.count(2), 0);
        due("count(3)", x.count(3), 0);
        due("count(4)", x.count(4), 1);
        due("since(0)", x.since(0), 0);
        due("split(0, 1, 0)", x.split(0, 1, 0), 0);
        due("group(1, 0)", x.group(1, 0), 0);
        due("group(2, 0)", x.group(2, 0), -1);
        due("ranked(0)", x.ranked(0), 0x01);
        due("ranked(1)", x.ranked(1), -2);
        due("share()", x.share(), -3);
        CHECKS.scored(x, 1, 0, 11, 0, 1);
        due("arc(1, 0, 0): it is plain", x.arc(1, 0, 0), 1);
        due("arc(0, 1, 0)", x.arc(0, 1, 0), -3);
        CHECKS.scored(x, 0, 1, 7, 1, 1);
    }

    private static void graphTaken() {
        promise(2, "A new graph of n nodes and a SORT, without ARCS");
        int[] ofTwo = {1, 2, 1};
        for (int sort = 0; sort <= 2; sort++) {
            ArcGuesser x = new ArcGuesser();
            due("graph(12, " + sort + ")", x.graph(12, sort), PAIRS_OF_TWELVE[sort]);
            due("graph(2, " + sort + ")", x.graph(2, sort), ofTwo[sort]);
            // From the fullest graph to the least one, and back: no ARC is left over.
            ArcGuesser full = Graphs.full(12, sort);
            full.since(0);
            due("graph(2, " + sort + ")", full.graph(2, sort), ofTwo[sort]);
            due("count(2)", full.count(2), 0);
            due("count(3)", full.count(3), 0);
            due("arc(0, 1, 0)", full.arc(0, 1, 0), 1);
            due("since(0)", full.since(0), 1);
            due("graph(12, " + sort + ")", full.graph(12, sort), PAIRS_OF_TWELVE[sort]);
            due("count(2)", full.count(2), 0);
            due("count(4)", full.count(4), PAIRS_OF_TWELVE[sort]);
            CHECKS.scored(full, 0, 11, 6, 0, 1);
        }
        graphAfterKnownArcs();
    }

    /** Of what led before, to and from each node, nothing is left over. */
    private static void graphAfterKnownArcs() {
        for (int sort = 0; sort <= 2; sort++) {
            ArcGuesser x = Graphs.full(12, 1);
            x.graph(12, sort);
            CHECKS.scored(x, 0, 11, 8, 0, 1);
            x.arc(0, 11, 0);
            // Node 5 is a left one, 6 a right one.
            CHECKS.scored(x, 0, 6, 6, 0, 1);
            CHECKS.scored(x, 5, 11, 6, 0, 1);
            CHECKS.scored(x, 0, 11, 6, 1, 1);
        }
    }

    private static void graphAsAtFirst() {
        promise(2, "all as at first (WEIGHTS, v, w, s, THE BOARD, too): how many PAIRS");
        ArcGuesser x = Graphs.full(3, 0);
        for (int measure = 0; measure <= 10; measure++) {
            x.weigh(measure, 99 - measure);
        }
        x.paths(9, 0, 1);
        for (int node = 0; node < 3; node++) {
            x.group(node, 3 - node);
        }
        x.hide(0, 1, true);
        // 99, 98, 97, 96 and 95 times 1, 94 by 2, 93, 92 times 9, 91 by 2; WANDER and GROUPS 0.
        CHECKS.scored(x, 0, 1, 11, 2997, 2);
        due("graph(3, 0)", x.graph(3, 0), 3);
        CHECKS.board("graph(3, 0)", x, 0, 1);
        weightsDue(x, 1);
        for (int node = 0; node < 3; node++) {
            due("group(" + node + ", 0)", x.group(node, 0), 0);
        }
        x.arc(0, 1, 0);
        x.arc(0, 2, 0);
        x.arc(1, 2, 0);
        CHECKS.scored(x, 0, 1, 7, 4, 1);
        CHECKS.scored(x, 0, 1, 9, 1, 4);
        x.paths(1, 0, 2);
        CHECKS.scored(x, 0, 1, 7, 1, 1);
    }

    private static void graphRefused() {
        promise(2, "-2: n, the SORT.");
        ArcGuesser x = new ArcGuesser();
        int[][] wrong = {{1, 0}, {13, 0}, {1, 2}, {13, 2}, {2, -1}, {2, 3}, {12, -1}, {12, 3},
            {1, 3}, {13, -1}, {0, 0}, {MIN, 1}, {MAX, 1}, {5, MIN}, {5, MAX}};
        for (int[] row : wrong) {
            due("graph(" + row[0] + ", " + row[1] + ")", x.graph(row[0], row[1]), -2);
        }
        due("count(0)", x.count(0), 2);
        due("count(1)", x.count(1), 1);
    }

    private static void arcTaken() {
        promise(3, "A KNOWN ARC for the PAIR (a, b): how many ARCS.");
        for (int sort = 0; sort <= 2; sort++) {
            ArcGuesser x = Graphs.without(12, sort);
            int told = 0;
            for (int code : Graphs.pairs(12, sort)) {
                told++;
                due("arc number " + told, x.arc(code / 16, code % 16, told), told);
            }
            due("count(2): every PAIR has an ARC", x.count(2), PAIRS_OF_TWELVE[sort]);
            due("count(3): all are KNOWN", x.count(3), 0);
            for (int code : Graphs.pairs(12, sort)) {
                due("arc again", x.arc(code / 16, code % 16, 0), -3);
            }
            due("count(2)", x.count(2), PAIRS_OF_TWELVE[sort]);
        }
    }

    private static void arcRefused() {
        promise(3, "-1; -2: the TIME;");
        ArcGuesser x = Graphs.without(12, 0);
        due("arc(0, 11, 9999)", x.arc(0, 11, 9999), 1);
        due("arc(10, 11, 0)", x.arc(10, 11, 0), 2);
        int[][] wrong = {{-1, 0}, {0, -1}, {12, 0}, {0, 12}, {-1, 12}, {12, 12}, {0, 0}, {11, 11},
            {MIN, 0}, {0, MIN}, {MAX, 0}, {0, MAX}, {MIN, MAX}};
        for (int[] row : wrong) {
            due("arc(" + row[0] + ", " + row[1] + ", 0)", x.arc(row[0], row[1], 0), -1);
            due("arc(" + row[0] + ", " + row[1] + ", -1)", x.arc(row[0], row[1], -1), -1);
        }
        for (int time : new int[] {-1, 10000, MIN, MAX}) {
            due("arc(3, 4, " + time + ")", x.arc(3, 4, time), -2);
        }
        due("count(2)", x.count(2), 2);
    }

    private static void arcThereAlready() {
        promise(3, "-3: it has one.");
        ArcGuesser x = Graphs.of(3, 0, 0, 1);
        due("arc(0, 1, 0), KNOWN", x.arc(0, 1, 0), -3);
        due("arc(1, 0, 7), told the other way", x.arc(1, 0, 7), -3);
        x.hide(0, 1, true);
        due("arc(0, 1, 7), HIDDEN", x.arc(0, 1, 7), -3);
        due("count(3): it is HIDDEN still", x.count(3), 1);
        due("since(7): the TIME is 0 still", x.since(7), 0);
        ArcGuesser ways = Graphs.of(3, 1, 0, 1);
        due("arc(0, 1, 0) with ways", ways.arc(0, 1, 0), -3);
        due("arc(1, 0, 0) with ways", ways.arc(1, 0, 0), 2);
    }

    private static void groupBefore() {
        promise(4, "A node's GROUP is another one: the one before.");
        ArcGuesser x = Graphs.without(12, 2);
        due("group(0, 0): the same one", x.group(0, 0), 0);
        due("group(0, 3)", x.group(0, 3), 0);
        due("group(0, 3): the same one", x.group(0, 3), 3);
        due("group(0, 0)", x.group(0, 0), 3);
        due("group(11, 3)", x.group(11, 3), 0);
        due("group(10, 1): another node", x.group(10, 1), 0);
        due("group(11, 2)", x.group(11, 2), 3);
    }

    private static void groupRefused() {
        promise(4, "-1; -2.");
        for (int n : new int[] {2, 12}) {
            ArcGuesser x = Graphs.without(n, 1);
            for (int node : new int[] {-1, n, MIN, MAX}) {
                due("group(" + node + ", 0)", x.group(node, 0), -1);
                due("group(" + node + ", 4)", x.group(node, 4), -1);
            }
            for (int group : new int[] {-1, 4, MIN, MAX}) {
                due("group(0, " + group + ")", x.group(0, group), -2);
                due("group(n - 1, " + group + ")", x.group(n - 1, group), -2);
            }
            due("group(n - 1, 0)", x.group(n - 1, 0), 0);
        }
    }

    private static void hideWhatItWas() {
        promise(5, "The PAIR's ARC is HIDDEN (1) or KNOWN (0) from now on: what it was.");
        for (int sort = 0; sort <= 2; sort++) {
            ArcGuesser x = Graphs.full(12, sort);
            int hidden = 0;
            for (int code : Graphs.pairs(12, sort)) {
                due("hide, KNOWN", x.hide(code / 16, code % 16, true), 0);
                hidden++;
                due("count(3)", x.count(3), hidden);
            }
            due("count(4): all are HIDDEN", x.count(4), PAIRS_OF_TWELVE[sort]);
            due("hide(0, 11, true), HIDDEN", x.hide(0, 11, true), 1);
            due("hide(0, 11, false), HIDDEN", x.hide(0, 11, false), 1);
            due("hide(0, 11, false), KNOWN", x.hide(0, 11, false), 0);
            due("count(4)", x.count(4), PAIRS_OF_TWELVE[sort] - 1);
        }
    }

    private static void hideRefused() {
        promise(5, "-1: no such PAIR, no ARC.");
        for (boolean is : new boolean[] {true, false}) {
            ArcGuesser x = Graphs.of(4, 0, 0, 1);
            int[][] wrong = {{-1, 0}, {0, -1}, {4, 0}, {0, 4}, {0, 0}, {3, 3}, {MIN, 0}, {0, MAX},
                {0, 2}, {2, 3}, {3, 0}};
            for (int[] row : wrong) {
                due("hide(" + row[0] + ", " + row[1] + ")", x.hide(row[0], row[1], is), -1);
            }
            ArcGuesser ways = Graphs.of(4, 1, 0, 1);
            due("hide(1, 0): no ARC this way", ways.hide(1, 0, is), -1);
            ArcGuesser sides = Graphs.full(4, 2);
            due("hide(0, 1): two left ones", sides.hide(0, 1, is), -1);
            due("hide(2, 3): two right ones", sides.hide(2, 3, is), -1);
            due("hide(0, 1) of no ARCS", new ArcGuesser().hide(0, 1, is), -1);
        }
    }

    private static void sinceThisTime() {
        promise(6, "All ARCS of this TIME or later are HIDDEN, all others KNOWN");
        ArcGuesser x = Graphs.without(4, 0);
        x.arc(0, 1, 9999);
        x.arc(0, 2, 0);
        x.arc(0, 3, 500);
        x.arc(1, 2, 500);
        int[][] due = {{0, 4}, {1, 3}, {499, 3}, {500, 3}, {501, 1}, {9998, 1}, {9999, 1}};
        for (int[] row : due) {
            due("since(" + row[0] + ")", x.since(row[0]), row[1]);
            due("count(3)", x.count(3), row[1]);
        }
        due("hide(0, 1, true): it is HIDDEN", x.hide(0, 1, true), 1);
        due("hide(0, 3, false): it is KNOWN", x.hide(0, 3, false), 0);
        // The document refuses no time: past the last one nothing, before the first one all.
        due("since(10000)", x.since(10000), 0);
        due("since(-1)", x.since(-1), 4);
        due("since(MAX)", x.since(MAX), 0);
        due("since(MIN)", x.since(MIN), 4);
        due("hide(0, 2, true): it is HIDDEN", x.hide(0, 2, true), 1);
    }

    private static void sinceNoArcs() {
        promise(6, "how many are HIDDEN.");
        for (int time : new int[] {0, 9999, MIN, MAX}) {
            due("since(" + time + ") of no ARCS", Graphs.without(12, 1).since(time), 0);
        }
        for (int sort = 0; sort <= 2; sort++) {
            ArcGuesser full = Graphs.full(12, sort);
            due("since(0) of all", full.since(0), PAIRS_OF_TWELVE[sort]);
            due("since(1) of all", full.since(1), 0);
            due("count(4)", full.count(4), 0);
        }
    }

    /** Each ARC's draw leaves one r by q, so over all r each ARC is HIDDEN once. */
    private static void splitLeft() {
        promise(7, "one for each ARC by numbers: those whose draw leaves r by q are HIDDEN");
        int[] seeds = {0, 1, -1, MIN, MAX};
        for (int seed : seeds) {
            ArcGuesser x = Graphs.full(12, 1);
            for (int q = 1; q <= 20; q++) {
                int hidden = 0;
                for (int r = 0; r < q; r++) {
                    hidden += x.split(seed, q, r);
                }
                due("split by " + q + ", over all r", hidden, 132);
            }
        }
        // The lone draws from 8, 18 and 0 leave 19, 0 and 3 by 20.
        ArcGuesser one = new ArcGuesser();
        due("split(8, 20, 19) of no ARC", one.split(8, 20, 19), 0);
        one.arc(0, 1, 0);
        due("split(8, 20, 19)", one.split(8, 20, 19), 1);
        due("split(8, 20, 18)", one.split(8, 20, 18), 0);
        due("split(18, 20, 0)", one.split(18, 20, 0), 1);
        due("split(18, 20, 19)", one.split(18, 20, 19), 0);
        due("split(0, 20, 3)", one.split(0, 20, 3), 1);
        due("split(0, 1, 0)", one.split(0, 1, 0), 1);
    }

    /** From seed 0 the draws leave 3, 17 and 14 by 20. */
    private static void splitOthersKnown() {
        promise(7, "are HIDDEN, all others KNOWN: how many are HIDDEN.");
        ArcGuesser x = Graphs.full(3, 0);
        x.since(0);
        due("split(0, 20, 17)", x.split(0, 20, 17), 1);
        due("hide(0, 1, false)", x.hide(0, 1, false), 0);
        due("hide(0, 2, true)", x.hide(0, 2, true), 1);
        due("hide(1, 2, false)", x.hide(1, 2, false), 0);
        due("split(0, 20, 0): nothing is HIDDEN", x.split(0, 20, 0), 0);
        due("count(3)", x.count(3), 0);
        due("split(0, 1, 0): all are HIDDEN", x.split(0, 1, 0), 3);
        due("count(3)", x.count(3), 3);
    }

    private static void splitRefused() {
        promise(7, "-2: q is not 1 .. 20, r not 0 .. q - 1.");
        ArcGuesser x = Graphs.full(12, 0);
        for (int q : new int[] {0, 21, -1, -20, MIN, MAX}) {
            due("split(0, " + q + ", 0)", x.split(0, q, 0), -2);
            due("split(0, " + q + ", -1)", x.split(0, q, -1), -2);
        }
        for (int q = 1; q <= 20; q++) {
            for (int r : new int[] {-1, q, MIN, MAX}) {
                due("split(0, " + q + ", " + r + ")", x.split(0, q, r), -2);
            }
        }
        due("count(3)", x.count(3), 0);
        due("split(0, -1, -2)", x.split(0, -1, -2), -2);
        due("split of no ARCS", new ArcGuesser().split(0, 21, 0), -2);
    }

    private static void countTaken() {
        promise(8, "How many: 0 nodes, 1 PAIRS, 2 ARCS, 3 HIDDEN ones, 4 CANDIDATES.");
        for (int sort = 0; sort <= 2; sort++) {
            int pairs = PAIRS_OF_TWELVE[sort];
            countsDue(Graphs.without(12, sort), 12, pairs, 0, 0, pairs);
            ArcGuesser full = Graphs.full(12, sort);
            countsDue(full, 12, pairs, pairs, 0, 0);
            full.hide(5, 6, true);
            countsDue(full, 12, pairs, pairs, 1, 1);
            full.since(0);
            countsDue(full, 12, pairs, pairs, pairs, pairs);
        }
    }

    private static void countsDue(ArcGuesser x, int... counts) {
        for (int what = 0; what < counts.length; what++) {
            due("count(" + what + ")", x.count(what), counts[what]);
        }
    }

    private static void countRefused() {
        promise(8, "-2.");
        for (int what : new int[] {-1, 5, 6, MIN, MAX}) {
            due("count(" + what + ")", new ArcGuesser().count(what), -2);
        }
    }

    /** In a triangle one way of two ARCS and three of three lead from one node to another. */
    private static void pathsTaken() {
        promise(9, "v, w and s become these: 1.");
        ArcGuesser x = Graphs.full(3, 0);
        due("paths(0, 0, 1)", x.paths(0, 0, 1), 1);
        CHECKS.scored(x, 0, 1, 7, 0, 1);
        CHECKS.scored(x, 0, 1, 9, 1, 2);
        due("paths(9, 9, 2)", x.paths(9, 9, 2), 1);
        CHECKS.scored(x, 0, 1, 7, 36, 1);
        CHECKS.scored(x, 0, 1, 9, 1, 4);
        due("paths(9, 0, 1)", x.paths(9, 0, 1), 1);
        CHECKS.scored(x, 0, 1, 7, 9, 1);
        due("paths(0, 9, 2)", x.paths(0, 9, 2), 1);
        CHECKS.scored(x, 0, 1, 7, 27, 1);
    }

    private static void pathsRefused() {
        promise(9, "-2.");
        ArcGuesser x = Graphs.full(3, 0);
        x.paths(2, 3, 1);
        for (int wrong : new int[] {-1, 10, MIN, MAX}) {
            due("paths(" + wrong + ", 0, 2)", x.paths(wrong, 0, 2), -2);
            due("paths(0, " + wrong + ", 2)", x.paths(0, wrong, 2), -2);
            due("paths(9, 9, " + wrong + ")", x.paths(9, 9, wrong), -2);
        }
        due("paths(9, 9, 0)", x.paths(9, 9, 0), -2);
        due("paths(9, 9, 3)", x.paths(9, 9, 3), -2);
        due("paths(-1, 10, 3)", x.paths(-1, 10, 3), -2);
        CHECKS.scored(x, 0, 1, 7, 11, 1);
        CHECKS.scored(x, 0, 1, 9, 1, 2);
    }

    private static void weighTaken() {
        promise(10, "The WEIGHT of a measure becomes another one: the one before and 100.");
        for (int measure = 0; measure <= 10; measure++) {
            ArcGuesser x = new ArcGuesser();
            int first = measure == 0 ? 101 : 100;
            due("weigh(" + measure + ", -99)", x.weigh(measure, -99), first);
            due("weigh(" + measure + ", 99)", x.weigh(measure, 99), 1);
            due("weigh(" + measure + ", 99): the same one", x.weigh(measure, 99), 199);
            due("weigh(" + measure + ", 0)", x.weigh(measure, 0), 199);
            due("weigh(" + measure + ", 0)", x.weigh(measure, 0), 100);
            weightsDue(x, measure == 0 ? 0 : 1);
        }
    }

    private static void weighRefused() {
        promise(10, "-2.");
        ArcGuesser x = new ArcGuesser();
        for (int measure : new int[] {-1, 11, 12, MIN, MAX}) {
            due("weigh(" + measure + ", 0)", x.weigh(measure, 0), -2);
            due("weigh(" + measure + ", 100)", x.weigh(measure, 100), -2);
        }
        for (int weight : new int[] {-100, 100, MIN, MAX}) {
            due("weigh(0, " + weight + ")", x.weigh(0, weight), -2);
            due("weigh(10, " + weight + ")", x.weigh(10, weight), -2);
        }
        weightsDue(x, 1);
    }

    private static void weightTaken() {
        promise(11, "The WEIGHT of a measure and 100.");
        ArcGuesser x = new ArcGuesser();
        x.weigh(0, -99);
        x.weigh(10, 99);
        x.weigh(9, -1);
        due("weight(0)", x.weight(0), 1);
        due("weight(10)", x.weight(10), 199);
        due("weight(9)", x.weight(9), 99);
        due("weight(8)", x.weight(8), 100);
    }

    private static void weightRefused() {
        promise(11, "-2.");
        for (int measure : new int[] {-1, 11, 12, MIN, MAX}) {
            due("weight(" + measure + ")", new ArcGuesser().weight(measure), -2);
        }
    }

    private static void scoreTaken() {
        promise(12, "THE BOARD shows a measure (0 .. 10) of a PAIR, or its MIX (11): 1.");
        ArcGuesser x = Graphs.full(3, 0);
        x.weigh(0, 7);
        CHECKS.scored(x, 0, 1, 0, 1, 1);
        CHECKS.scored(x, 0, 1, 10, 2, 3);
        CHECKS.scored(x, 0, 1, 11, 7, 1);
        // Of a PAIR with a KNOWN ARC, with a HIDDEN one and with none.
        CHECKS.scored(x, 1, 2, 8, 1, 1);
        x.hide(1, 2, true);
        CHECKS.scored(x, 1, 2, 8, 1, 2);
        CHECKS.scored(Graphs.of(3, 0, 0, 1, 0, 2), 1, 2, 8, 1, 2);
        for (int sort = 0; sort <= 2; sort++) {
            CHECKS.scored(Graphs.full(12, sort), 5, 6, 8, 1, 1);
            CHECKS.scored(Graphs.full(12, sort), 0, 11, 8, 1, 1);
        }
    }

    private static void scoreRefused() {
        promise(12, "-1; -2.");
        ArcGuesser x = Graphs.full(3, 0);
        CHECKS.scored(x, 0, 1, 10, 2, 3);
        int[][] wrong = {{-1, 0}, {0, -1}, {3, 0}, {0, 3}, {0, 0}, {2, 2}, {MIN, 0}, {0, MAX}};
        for (int[] row : wrong) {
            due("score(" + row[0] + ", " + row[1] + ", 0)", x.score(row[0], row[1], 0), -1);
            due("score(" + row[0] + ", " + row[1] + ", 12)", x.score(row[0], row[1], 12), -1);
        }
        for (int measure : new int[] {-1, 12, MIN, MAX}) {
            due("score(0, 1, " + measure + ")", x.score(0, 1, measure), -2);
        }
        CHECKS.board("score, refused", x, 2, 3);
        due("score(0, 1, 0): two left ones", Graphs.full(4, 2).score(0, 1, 0), -1);
        due("score(2, 3, 0): two right ones", Graphs.full(4, 2).score(2, 3, 0), -1);
    }

    private static void topSigned() {
        promise(13, "Above the line of THE BOARD's fraction.");
        ArcGuesser x = Graphs.of(3, 0, 0, 1, 1, 2);
        due("top() at first", x.top(), 0);
        int[] weights = {99, 1, 0, -1, -99};
        for (int weight : weights) {
            x.weigh(0, weight);
            due("score(0, 2, 11)", x.score(0, 2, 11), 1);
            due("top() by " + weight, x.top(), weight);
        }
    }

    private static void bottomAboveZero() {
        promise(14, "Below it, above 0.");
        ArcGuesser x = Graphs.of(3, 0, 0, 1, 1, 2);
        due("bottom() at first", x.bottom(), 1);
        x.weigh(0, 0);
        int[][] due = {{99, 2}, {2, 1}, {0, 1}, {-1, 2}, {-2, 1}, {-99, 2}};
        for (int[] row : due) {
            x.weigh(8, row[0]);
            due("score(0, 2, 11)", x.score(0, 2, 11), 1);
            due("bottom() by " + row[0], x.bottom(), row[1]);
        }
    }

    private static void rankedTaken() {
        promise(15, "16 a and b of the CANDIDATE (a, b) at place k (from 0) of THE RANKING.");
        int[][] firstAndLast = {{0x01, 0xAB}, {0x01, 0xBA}, {0x06, 0x5B}};
        for (int sort = 0; sort <= 2; sort++) {
            ArcGuesser x = Graphs.without(12, sort);
            due("ranked(0)", x.ranked(0), firstAndLast[sort][0]);
            due("ranked, last", x.ranked(PAIRS_OF_TWELVE[sort] - 1), firstAndLast[sort][1]);
            due("ranked, past it", x.ranked(PAIRS_OF_TWELVE[sort]), -2);
            // One CANDIDATE alone.
            ArcGuesser full = Graphs.full(12, sort);
            full.hide(3, 8, true);
            due("ranked(0)", full.ranked(0), 0x38);
            due("ranked(1)", full.ranked(1), -2);
        }
    }

    private static void rankedRefused() {
        promise(15, "-2: none such.");
        ArcGuesser x = Graphs.of(3, 0, 0, 1);
        due("ranked(1)", x.ranked(1), 0x12);
        for (int k : new int[] {-1, 2, 3, MIN, MAX}) {
            due("ranked(" + k + ")", x.ranked(k), -2);
        }
        for (int k : new int[] {-1, 0, 1, 131, 132, MIN, MAX}) {
            due("ranked(" + k + ") of no CANDIDATES", Graphs.full(12, 1).ranked(k), -2);
        }
    }

    private static void placeTaken() {
        promise(16, "The place of a PAIR in THE RANKING.");
        for (int sort = 0; sort <= 2; sort++) {
            ArcGuesser x = Graphs.without(12, sort);
            int[] pairs = Graphs.pairs(12, sort);
            for (int k = 0; k < pairs.length; k++) {
                due("place", x.place(pairs[k] / 16, pairs[k] % 16), k);
            }
            ArcGuesser full = Graphs.full(12, sort);
            full.hide(3, 8, true);
            due("place(3, 8), the only CANDIDATE", full.place(3, 8), 0);
        }
    }

    private static void placeRefused() {
        promise(16, "-1;");
        ArcGuesser x = Graphs.full(3, 0);
        int[][] wrong = {{-1, 0}, {0, -1}, {3, 0}, {0, 3}, {0, 0}, {2, 2}, {MIN, 0}, {0, MAX}};
        for (int[] row : wrong) {
            due("place(" + row[0] + ", " + row[1] + ")", x.place(row[0], row[1]), -1);
        }
        due("place(0, 1): two left ones", Graphs.without(4, 2).place(0, 1), -1);
        due("place(2, 3): two right ones", Graphs.without(4, 2).place(2, 3), -1);
    }

    private static void placeOfNoCandidate() {
        promise(16, "-3: it is no CANDIDATE.");
        for (int sort = 0; sort <= 2; sort++) {
            ArcGuesser full = Graphs.full(12, sort);
            for (int code : Graphs.pairs(12, sort)) {
                due("place, KNOWN", full.place(code / 16, code % 16), -3);
            }
            full.since(0);
            due("place(0, 11), HIDDEN", full.place(0, 11), Graphs.without(12, sort).place(0, 11));
        }
        ArcGuesser ways = Graphs.of(2, 1, 0, 1);
        due("place(0, 1) with ways", ways.place(0, 1), -3);
        due("place(1, 0) with ways", ways.place(1, 0), 0);
    }

    private static void amongTaken() {
        promise(17, "How many of the first k of THE RANKING are FOUND.");
        for (int sort = 0; sort <= 2; sort++) {
            int pairs = PAIRS_OF_TWELVE[sort];
            ArcGuesser none = Graphs.without(12, sort);
            due("among(0): nothing is FOUND", none.among(0), 0);
            due("among(all): nothing is FOUND", none.among(pairs), 0);
            ArcGuesser all = Graphs.full(12, sort);
            due("among(0) of no CANDIDATES", all.among(0), 0);
            all.since(0);
            for (int k = 0; k <= pairs; k++) {
                due("among(" + k + "): all are FOUND", all.among(k), k);
            }
            ArcGuesser last = Graphs.without(12, sort);
            int code = Graphs.pairs(12, sort)[pairs - 1];
            last.arc(code / 16, code % 16, 0);
            last.since(0);
            due("among(all but the last)", last.among(pairs - 1), 0);
            due("among(all)", last.among(pairs), 1);
        }
    }

    private static void amongRefused() {
        promise(17, "-2: k is below 0, or above their number.");
        ArcGuesser x = Graphs.of(3, 0, 0, 1);
        due("among(2)", x.among(2), 0);
        for (int k : new int[] {-1, 3, MIN, MAX}) {
            due("among(" + k + ")", x.among(k), -2);
        }
        x.hide(0, 1, true);
        due("among(3)", x.among(3), 1);
        due("among(4)", x.among(4), -2);
        for (int k : new int[] {-1, 1, 132, MIN, MAX}) {
            due("among(" + k + ") of no CANDIDATES", Graphs.full(12, 1).among(k), -2);
        }
    }

    private static void shareTaken() {
        promise(18, "THE BOARD shows THE SHARE: 1.");
        // The least graph with both: one FOUND and one EMPTY.
        ArcGuesser x = Graphs.of(3, 2, 0, 1);
        x.hide(0, 1, true);
        due("share()", x.share(), 1);
        CHECKS.board("share(), both alike", x, 1, 2);
        // (0, 2) is FOUND and has 1 of measure 0; the EMPTY ones have 0.
        ArcGuesser all = Graphs.of(4, 0, 0, 1, 1, 2, 0, 2);
        all.hide(0, 2, true);
        due("share()", all.share(), 1);
        CHECKS.board("share(), always greater", all, 1, 1);
        all.weigh(0, -1);
        due("share()", all.share(), 1);
        CHECKS.board("share(), never greater", all, 0, 1);
    }

    private static void shareRefused() {
        promise(18, "-3: nothing is FOUND, or nothing EMPTY.");
        for (int sort = 0; sort <= 2; sort++) {
            ArcGuesser none = Graphs.without(12, sort);
            due("share() without ARCS", none.share(), -3);
            none.arc(0, 11, 0);
            due("share(): one KNOWN ARC", none.share(), -3);
            none.hide(0, 11, true);
            due("share(): one HIDDEN ARC", none.share(), 1);
            ArcGuesser full = Graphs.full(12, sort);
            due("share(): no CANDIDATE", full.share(), -3);
            full.hide(0, 11, true);
            due("share(): one FOUND, nothing EMPTY", full.share(), -3);
            full.since(0);
            due("share(): all FOUND, nothing EMPTY", full.share(), -3);
            CHECKS.board("share(), refused", full, 0, 1);
        }
    }

    /** FOUND are (0, 2) of 1, (0, 3) of 0 and (2, 3) of 0; EMPTY is (1, 3) of 0 alone. */
    private static void sampleOneEmpty() {
        promise(19, "each FOUND one, in the order of PAIRS, is held against one EMPTY one alone");
        ArcGuesser x = Graphs.of(4, 0, 2, 3, 0, 3, 0, 1, 1, 2, 0, 2);
        x.hide(0, 2, true);
        x.hide(0, 3, true);
        x.hide(2, 3, true);
        for (int seed : new int[] {0, 1, -1, 682, MIN, MAX}) {
            due("sample(" + seed + ")", x.sample(seed), 1);
            CHECKS.board("sample(" + seed + "): one EMPTY alone", x, 2, 3);
        }
        // One FOUND alone, held against one of 65 like it.
        ArcGuesser one = Graphs.of(12, 0, 0, 11);
        one.since(0);
        due("sample(0): one FOUND alone", one.sample(0), 1);
        CHECKS.board("sample(0): one FOUND alone", one, 1, 2);
    }

    /**
     * By measure 6 the FOUND (0, 3) has 2, (2, 5) 0, though (2, 5) was told first; the ten EMPTY
     * ones have 2 0 1 1 1 0 1 1 0 0. Two draws leave 5 3 by 10 from seed 1, 7 0 from 2, 1 1 from 9.
     */
    private static void sampleInOrder() {
        promise(19, "each FOUND one, in the order of PAIRS");
        ArcGuesser x = Graphs.of(6, 0, 2, 5, 0, 3, 0, 1, 0, 2, 3, 4);
        x.hide(2, 5, true);
        x.hide(0, 3, true);
        x.weigh(0, 0);
        x.weigh(6, 1);
        int[][] due = {{1, 1, 2}, {2, 1, 2}, {9, 3, 4}};
        for (int[] row : due) {
            due("sample(" + row[0] + ")", x.sample(row[0]), 1);
            CHECKS.board("sample(" + row[0] + ")", x, row[1], row[2]);
        }
    }

    /**
     * FOUND is (6, 7) of 0. Two KNOWN ARCS by 5 give 1 to one EMPTY one alone: to the first, the
     * second, the last but one and the last of 63. The first draw of a ROW from these seeds leaves
     * 0, 1, 61 and 62 by 63, first of a z above 0, then of one below it.
     */
    private static void samplePlaces() {
        promise(19, "that is left when a draw of a ROW is divided by how many there are: 1.");
        int[][] ends = {{0, 1}, {0, 2}, {9, 11}, {10, 11}};
        int[][] seeds = {{72, 743}, {19, 690}, {96, 767}, {14, 685}};
        for (int told = 0; told < ends.length; told++) {
            ArcGuesser x = Graphs.of(12, 0, 6, 7, ends[told][0], 5, ends[told][1], 5);
            x.hide(6, 7, true);
            for (int drawn = 0; drawn < seeds.length; drawn++) {
                for (int seed : seeds[drawn]) {
                    due("sample(" + seed + ")", x.sample(seed), 1);
                    boolean met = drawn == told;
                    CHECKS.board("sample(" + seed + ")", x, met ? 0 : 1, met ? 1 : 2);
                }
            }
        }
    }

    private static void sampleRefused() {
        promise(19, "-3.");
        for (int sort = 0; sort <= 2; sort++) {
            for (int seed : new int[] {0, -1, MIN, MAX}) {
                ArcGuesser none = Graphs.without(12, sort);
                due("sample without ARCS", none.sample(seed), -3);
                none.arc(0, 11, 0);
                due("sample: nothing FOUND", none.sample(seed), -3);
                none.hide(0, 11, true);
                due("sample: one FOUND", none.sample(seed), 1);
                ArcGuesser full = Graphs.full(12, sort);
                due("sample: no CANDIDATE", full.sample(seed), -3);
                full.since(0);
                due("sample: nothing EMPTY", full.sample(seed), -3);
                CHECKS.board("sample, refused", full, 0, 1);
            }
        }
    }

    private static void learnDue(ArcGuesser x, int bits, int top, long above, long below) {
        String call = "learn(" + bits + ", " + top + ")";
        due(call, x.learn(bits, top), 1);
        CHECKS.board(call, x, above, below);
    }

    /** KNOWN is (0, 2) alone, between the GROUPS of 0 1 and of 2 3; FOUND is (1, 3). */
    private static ArcGuesser twoGroups() {
        ArcGuesser x = Graphs.of(4, 0, 0, 2, 1, 3);
        x.hide(1, 3, true);
        x.group(2, 1);
        x.group(3, 1);
        return x;
    }

    /**
     * KNOWN are 1-4, 3-4 and 0-2. Measures 6 and 8 of the FOUND: (1, 3) 1 and 1 / 2, (0, 4) 2 and
     * 0; of the EMPTY: (2, 4) 2 and 0, four others 1 and 0. By 1 and w (0, 4) is above four and
     * like (2, 4); (1, 3) is above four, and below, like and above (2, 4) for w 1, 2 and 3.
     */
    private static void learnTop() {
        promise(20, "Of all WEIGHTS 0 .. top for the measures that are bits");
        ArcGuesser x = Graphs.of(5, 0, 1, 4, 3, 4, 0, 2, 1, 3, 0, 4);
        x.since(3);
        learnDue(x, 1 << 6 | 1 << 8, 1, 17, 20);
        weightsDue(x, 0, 0, 0, 0, 0, 0, 1, 0, 1);
        learnDue(x, 1 << 6 | 1 << 8, 2, 9, 10);
        weightsDue(x, 0, 0, 0, 0, 0, 0, 1, 0, 2);
        learnDue(x, 1 << 6 | 1 << 8, 3, 19, 20);
        weightsDue(x, 0, 0, 0, 0, 0, 0, 1, 0, 3);
        // 0 is among them: with 6 alone (1, 3) is like four and below one, (0, 4) as before.
        learnDue(x, 1 << 6, 3, 13, 20);
        weightsDue(x, 0, 0, 0, 0, 0, 0, 1);
        // With 8 alone (1, 3) is above all, (0, 4) like all.
        learnDue(x, 1 << 8, 3, 3, 4);
        weightsDue(x, 0, 0, 0, 0, 0, 0, 0, 0, 1);
    }

    /** By measure 10 (1, 3) is above (0, 1) and (2, 3), like (0, 3) and (1, 2): 3 / 4. */
    private static void learnBits() {
        promise(20, "(bit i: measure i; 1 to 3 of them)");
        ArcGuesser x = twoGroups();
        learnDue(x, 1 << 10, 1, 3, 4);
        weightsDue(x, 0, 0, 0, 0, 0, 0, 0, 0, 0, 0, 1);
        learnDue(x, 1 << 9 | 1 << 10, 2, 3, 4);
        weightsDue(x, 0, 0, 0, 0, 0, 0, 0, 0, 0, 0, 1);
        learnDue(x, 1 << 8 | 1 << 9 | 1 << 10, 3, 3, 4);
        weightsDue(x, 0, 0, 0, 0, 0, 0, 0, 0, 0, 0, 1);
        learnDue(x, 1 << 0 | 1 << 5 | 1 << 10, 3, 3, 4);
        weightsDue(x, 0, 0, 0, 0, 0, 0, 0, 0, 0, 0, 1);
        // Measure 0 alone: nothing is in common, so all are like, by 0 as by any other WEIGHT.
        learnDue(x, 1 << 0, 3, 1, 2);
        weightsDue(x);
        // In the chain 0-1-2 each of these measures tells (0, 2) apart from all others.
        for (int measure = 0; measure <= 9; measure++) {
            ArcGuesser chain = Graphs.of(4, 0, 0, 1, 1, 2, 0, 2);
            chain.hide(0, 2, true);
            int[] weights = new int[11];
            weights[measure] = 1;
            learnDue(chain, 1 << measure, 1, 1, 1);
            weightsDue(chain, weights);
        }
    }

    private static void learnOthersZero() {
        promise(20, "0 for all others");
        ArcGuesser x = twoGroups();
        for (int measure = 0; measure <= 10; measure++) {
            x.weigh(measure, -99);
        }
        learnDue(x, 1 << 10, 3, 3, 4);
        weightsDue(x, 0, 0, 0, 0, 0, 0, 0, 0, 0, 0, 1);
        x.weigh(10, 99);
        learnDue(x, 1 << 0, 1, 1, 2);
        weightsDue(x);
    }

    private static void learnLikeOnes() {
        promise(20, "of like ones the first, the least measure's rising last");
        // Any WEIGHT above 0 of any of these measures tells (0, 2) apart from all others.
        ArcGuesser x = Graphs.of(4, 0, 0, 1, 1, 2, 0, 2);
        x.hide(0, 2, true);
        learnDue(x, 0b111, 3, 1, 1);
        weightsDue(x, 0, 0, 1);
        learnDue(x, 0b011, 3, 1, 1);
        weightsDue(x, 0, 1);
        learnDue(x, 1 << 0 | 1 << 9, 1, 1, 1);
        weightsDue(x, 0, 0, 0, 0, 0, 0, 0, 0, 0, 1);
        // No WEIGHTS are better than none: all like, so the first ones, all 0.
        ArcGuesser none = Graphs.of(3, 2, 0, 1);
        none.hide(0, 1, true);
        learnDue(none, 0b111, 3, 1, 2);
        weightsDue(none);
        // (0, 3) is FOUND and has 0, (0, 2) is EMPTY and has 1: any WEIGHT is worse than 0.
        ArcGuesser worse = Graphs.of(4, 0, 0, 1, 1, 2, 0, 3);
        worse.hide(0, 3, true);
        learnDue(worse, 0b1, 3, 1, 2);
        weightsDue(worse);
    }

    private static void learnRefusedBits() {
        promise(20, "-2: bits, other than 0 .. 10, none, more than three;");
        ArcGuesser x = twoGroups();
        int[] wrong = {0, 1 << 11, 1 << 10 | 1 << 11, 1 << 30, MIN, MIN | 1, -1, -2, MAX,
            0b1111, 0b11111111111, 1 << 10 | 0b111, 0b11110000000};
        for (int bits : wrong) {
            due("learn(" + bits + ", 1)", x.learn(bits, 1), -2);
        }
        weightsDue(x, 1);
    }

    private static void learnRefusedTop() {
        promise(20, "top is not 1 .. 3.");
        ArcGuesser x = twoGroups();
        for (int top : new int[] {0, 4, -1, -3, MIN, MAX}) {
            due("learn(1, " + top + ")", x.learn(1, top), -2);
            due("learn(0, " + top + ")", x.learn(0, top), -2);
        }
        weightsDue(x, 1);
        for (int top = 1; top <= 3; top++) {
            due("learn(1, " + top + ")", x.learn(1, top), 1);
        }
    }

    private static void learnRefusedAsShare() {
        promise(20, "-3 as share().");
        for (int sort = 0; sort <= 2; sort++) {
            ArcGuesser none = Graphs.without(12, sort);
            due("learn(7, 3) without ARCS", none.learn(7, 3), -3);
            none.arc(0, 11, 0);
            due("learn(7, 3): nothing FOUND", none.learn(7, 3), -3);
            due("learn(7, 4): -2 first", none.learn(7, 4), -2);
            due("learn(15, 3): -2 first", none.learn(15, 3), -2);
            weightsDue(none, 1);
            none.hide(0, 11, true);
            learnDue(none, 7, 3, 1, 2);
            ArcGuesser full = Graphs.full(12, sort);
            due("learn(7, 3): no CANDIDATE", full.learn(7, 3), -3);
            full.since(0);
            due("learn(7, 3): nothing EMPTY", full.learn(7, 3), -3);
            due("learn(0, 3): -2 first", full.learn(0, 3), -2);
            weightsDue(full, 1);
            CHECKS.board("learn, refused", full, 0, 1);
        }
    }
}
