import java.util.List;
import java.util.function.Supplier;
import java.util.function.ToIntFunction;

/**
 * "Refused, and nothing is changed": each call that is refused, in states of every kind, with the
 * answer that fits first. What can be seen of the object afterwards is what can be seen of one that
 * was never asked.
 */
public final class RefusalTest {
    private static final int MIN = Integer.MIN_VALUE;
    private static final int MAX = Integer.MAX_VALUE;

    private static final Checks CHECKS = new Checks();
    private static final Document DOCUMENT = new Document();

    private final String name;
    private final Supplier<ArcGuesser> state;
    private final List<String> due;

    private RefusalTest(String name, Supplier<ArcGuesser> state) {
        this.name = name;
        this.state = state;
        this.due = Picture.of(state.get());
    }

    public static void main(String[] args) {
        CHECKS.sentence(DOCUMENT, "Terms", "Refused, and nothing is changed");
        pictureSeesChanges();
        RefusalTest plain = new RefusalTest("plain", RefusalTest::plain);
        RefusalTest ways = new RefusalTest("with ways", RefusalTest::withWays);
        RefusalTest sides = new RefusalTest("two-sided", RefusalTest::twoSided);
        for (RefusalTest test : new RefusalTest[] {plain, ways, sides}) {
            test.anyGraph();
        }
        plain.plainPairs();
        ways.pairsWithWays();
        sides.pairsOfTwoSides();
        nothingToJudge();
        CHECKS.finish();
    }

    /** Nodes 0 to 3; KNOWN 2-3, 0-1, 1-2, HIDDEN 0-2, EMPTY (0, 3) and (1, 3). */
    private static ArcGuesser plain() {
        ArcGuesser x = Graphs.without(4, 0);
        x.arc(2, 3, 3);
        x.arc(0, 1, 9999);
        x.arc(0, 2, 0);
        x.arc(1, 2, 5);
        x.hide(0, 2, true);
        return setAll(x);
    }

    /** Nodes 0 to 3; KNOWN 0-1, 1-2, 2-0, HIDDEN 2-3 and 1-0, EMPTY the other seven. */
    private static ArcGuesser withWays() {
        ArcGuesser x = Graphs.without(4, 1);
        x.arc(2, 3, 3);
        x.arc(0, 1, 9999);
        x.arc(1, 2, 0);
        x.arc(2, 0, 5);
        x.arc(1, 0, 1);
        x.hide(2, 3, true);
        x.hide(1, 0, true);
        return setAll(x);
    }

    /** Left 0 and 1, right 2 and 3; KNOWN 0-3 and 1-2, HIDDEN 1-3, EMPTY (0, 2). */
    private static ArcGuesser twoSided() {
        ArcGuesser x = Graphs.without(4, 2);
        x.arc(0, 3, 3);
        x.arc(2, 1, 9999);
        x.arc(1, 3, 0);
        x.hide(1, 3, true);
        return setAll(x);
    }

    /** Nothing is as at first, so that a call that sets something anew is seen. */
    private static ArcGuesser setAll(ArcGuesser x) {
        for (int node = 0; node < 4; node++) {
            x.group(node, 3 - node);
        }
        for (int measure = 0; measure <= 10; measure++) {
            x.weigh(measure, 7 * measure - 30);
        }
        x.paths(2, 3, 1);
        x.score(1, 2, 11);
        return x;
    }

    /** A picture that saw no change would let every refusal pass. */
    private static void pictureSeesChanges() {
        List<ToIntFunction<ArcGuesser>> changes = List.of(x -> x.graph(4, 0), x -> x.arc(0, 3, 1),
                x -> x.group(3, 1), x -> x.hide(0, 1, true), x -> x.hide(0, 2, false),
                x -> x.since(5), x -> x.split(0, 2, 1), x -> x.paths(1, 3, 1),
                x -> x.paths(2, 4, 1), x -> x.paths(2, 3, 2), x -> x.weigh(4, 0),
                x -> x.score(0, 1, 0), x -> x.share(), x -> x.sample(0), x -> x.learn(1, 1));
        List<String> before = Picture.of(plain());
        for (int i = 0; i < changes.size(); i++) {
            ArcGuesser x = plain();
            CHECKS.holds("change " + i + " is taken", changes.get(i).applyAsInt(x) >= 0);
            CHECKS.holds("change " + i + " is seen", !Picture.of(x).equals(before));
        }
    }

    private void refused(String call, int answer, ToIntFunction<ArcGuesser> asked) {
        ArcGuesser x = state.get();
        CHECKS.part("Terms \"Refused, and nothing is changed\", " + name);
        CHECKS.due(call, asked.applyAsInt(x), answer);
        List<String> seen = Picture.of(x);
        for (int i = 0; i < Math.min(seen.size(), due.size()); i++) {
            if (!seen.get(i).equals(due.get(i))) {
                CHECKS.holds("after " + call + " " + due.get(i) + ": " + seen.get(i), false);
                return;
            }
        }
        CHECKS.holds("after " + call + " as much is seen", seen.size() == due.size());
    }

    private void anyGraph() {
        refusedGraph();
        noSuchNode();
        outsideGroup();
        outsideSplit();
        outsideNumbers();
        outsideRanking();
        outsideLearn();
    }

    private void refusedGraph() {
        int[][] wrong = {{1, 0}, {13, 0}, {4, -1}, {4, 3}, {1, 3}, {MIN, 0}, {MAX, 2}, {4, MIN},
            {4, MAX}};
        for (int[] row : wrong) {
            refused("graph(" + row[0] + ", " + row[1] + ")", -2, x -> x.graph(row[0], row[1]));
        }
    }

    /** -1 comes before -2 of a TIME, a GROUP or a measure, and before -3. */
    private void noSuchNode() {
        int[][] wrong = {{-1, 0}, {0, -1}, {4, 0}, {0, 4}, {-1, 4}, {0, 0}, {3, 3}, {MIN, 0},
            {0, MIN}, {MAX, 0}, {0, MAX}};
        for (int[] row : wrong) {
            noPair(row[0], row[1]);
        }
        for (int node : new int[] {-1, 4, 11, 12, MIN, MAX}) {
            refused("group(" + node + ", 0)", -1, x -> x.group(node, 0));
            refused("group(" + node + ", 4)", -1, x -> x.group(node, 4));
            refused("group(" + node + ", -1)", -1, x -> x.group(node, -1));
        }
    }

    private void noPair(int a, int b) {
        String ends = "(" + a + ", " + b;
        refused("arc" + ends + ", 0)", -1, x -> x.arc(a, b, 0));
        refused("arc" + ends + ", -1)", -1, x -> x.arc(a, b, -1));
        refused("arc" + ends + ", 10000)", -1, x -> x.arc(a, b, 10000));
        refused("hide" + ends + ", true)", -1, x -> x.hide(a, b, true));
        refused("hide" + ends + ", false)", -1, x -> x.hide(a, b, false));
        refused("score" + ends + ", 0)", -1, x -> x.score(a, b, 0));
        refused("score" + ends + ", -1)", -1, x -> x.score(a, b, -1));
        refused("score" + ends + ", 12)", -1, x -> x.score(a, b, 12));
        refused("place" + ends + ")", -1, x -> x.place(a, b));
    }

    private void outsideGroup() {
        for (int group : new int[] {-1, 4, MIN, MAX}) {
            refused("group(0, " + group + ")", -2, x -> x.group(0, group));
            refused("group(3, " + group + ")", -2, x -> x.group(3, group));
        }
    }

    private void outsideSplit() {
        int[][] wrong = {{0, 0}, {21, 0}, {-1, 0}, {1, 1}, {1, -1}, {20, 20}, {20, -1}, {0, -1},
            {21, 21}, {-1, -2}, {MIN, 0}, {MAX, 0}, {3, MIN}, {3, MAX}};
        for (int[] row : wrong) {
            refused("split(5, " + row[0] + ", " + row[1] + ")", -2,
                    x -> x.split(5, row[0], row[1]));
        }
    }

    private void outsideNumbers() {
        for (int what : new int[] {-1, 5, MIN, MAX}) {
            refused("count(" + what + ")", -2, x -> x.count(what));
        }
        int[][] paths = {{-1, 0, 2}, {10, 0, 2}, {0, -1, 2}, {0, 10, 2}, {9, 9, 0}, {9, 9, 3},
            {10, 10, 3}, {MIN, 1, 1}, {1, MAX, 1}, {1, 1, MIN}};
        for (int[] row : paths) {
            refused("paths(" + row[0] + ", " + row[1] + ", " + row[2] + ")", -2,
                    x -> x.paths(row[0], row[1], row[2]));
        }
        for (int measure : new int[] {-1, 11, MIN, MAX}) {
            refused("weigh(" + measure + ", 0)", -2, x -> x.weigh(measure, 0));
            refused("weigh(" + measure + ", 100)", -2, x -> x.weigh(measure, 100));
            refused("weight(" + measure + ")", -2, x -> x.weight(measure));
        }
        for (int weight : new int[] {-100, 100, MIN, MAX}) {
            refused("weigh(0, " + weight + ")", -2, x -> x.weigh(0, weight));
            refused("weigh(10, " + weight + ")", -2, x -> x.weigh(10, weight));
        }
    }

    private void outsideRanking() {
        int candidates = state.get().count(4);
        for (int k : new int[] {-1, candidates, candidates + 1, MIN, MAX}) {
            refused("ranked(" + k + ")", -2, x -> x.ranked(k));
        }
        for (int k : new int[] {-1, candidates + 1, MIN, MAX}) {
            refused("among(" + k + ")", -2, x -> x.among(k));
        }
    }

    private void outsideLearn() {
        for (int bits : new int[] {0, 1 << 11, 1 | 1 << 11, 0b1111, -1, MIN, MIN | 1, MAX}) {
            refused("learn(" + bits + ", 1)", -2, x -> x.learn(bits, 1));
            refused("learn(" + bits + ", 4)", -2, x -> x.learn(bits, 4));
        }
        for (int top : new int[] {0, 4, -1, MIN, MAX}) {
            refused("learn(1, " + top + ")", -2, x -> x.learn(1, top));
        }
    }

    /** -2 of the TIME comes before -3, of a KNOWN ARC as of a HIDDEN one. */
    private void arcIsThere(int a, int b) {
        String ends = "(" + a + ", " + b;
        refused("arc" + ends + ", 1)", -3, x -> x.arc(a, b, 1));
        refused("arc" + ends + ", -1)", -2, x -> x.arc(a, b, -1));
        refused("arc" + ends + ", 10000)", -2, x -> x.arc(a, b, 10000));
    }

    private void noArc(int a, int b) {
        String ends = "(" + a + ", " + b;
        refused("hide" + ends + ", true)", -1, x -> x.hide(a, b, true));
        refused("hide" + ends + ", false)", -1, x -> x.hide(a, b, false));
        for (int time : new int[] {-1, 10000, MIN, MAX}) {
            refused("arc" + ends + ", " + time + ")", -2, x -> x.arc(a, b, time));
        }
        for (int measure : new int[] {-1, 12, MIN, MAX}) {
            refused("score" + ends + ", " + measure + ")", -2, x -> x.score(a, b, measure));
        }
    }

    private void noCandidate(int a, int b) {
        refused("place(" + a + ", " + b + ")", -3, x -> x.place(a, b));
    }

    private void plainPairs() {
        int[][] known = {{2, 3}, {3, 2}, {0, 1}, {1, 0}, {1, 2}};
        for (int[] row : known) {
            arcIsThere(row[0], row[1]);
            noCandidate(row[0], row[1]);
        }
        arcIsThere(0, 2);
        arcIsThere(2, 0);
        noArc(0, 3);
        noArc(3, 0);
        noArc(1, 3);
    }

    private void pairsWithWays() {
        int[][] known = {{0, 1}, {1, 2}, {2, 0}};
        for (int[] row : known) {
            arcIsThere(row[0], row[1]);
            noCandidate(row[0], row[1]);
        }
        arcIsThere(2, 3);
        arcIsThere(1, 0);
        noArc(3, 2);
        noArc(0, 2);
        noArc(2, 1);
    }

    private void pairsOfTwoSides() {
        int[][] known = {{0, 3}, {3, 0}, {1, 2}, {2, 1}};
        for (int[] row : known) {
            arcIsThere(row[0], row[1]);
            noCandidate(row[0], row[1]);
        }
        arcIsThere(1, 3);
        arcIsThere(3, 1);
        noArc(0, 2);
        noArc(2, 0);
        int[][] oneSide = {{0, 1}, {1, 0}, {2, 3}, {3, 2}};
        for (int[] row : oneSide) {
            noPair(row[0], row[1]);
        }
    }

    /** Nothing FOUND, nothing EMPTY, and neither of both. */
    private static void nothingToJudge() {
        for (int sort = 0; sort <= 2; sort++) {
            int kind = sort;
            new RefusalTest("no ARCS, sort " + kind, () -> setAll(Graphs.without(4, kind)))
                    .cannotBeJudged();
            new RefusalTest("one KNOWN ARC, sort " + kind, () -> setAll(Graphs.of(4, kind, 0, 3)))
                    .cannotBeJudged();
            new RefusalTest("all KNOWN, sort " + kind, () -> setAll(Graphs.full(4, kind)))
                    .cannotBeJudged();
            new RefusalTest("one HIDDEN, no EMPTY, sort " + kind, () -> allButOne(kind))
                    .cannotBeJudged();
            new RefusalTest("all HIDDEN, sort " + kind, () -> allHidden(kind)).cannotBeJudged();
        }
    }

    private static ArcGuesser allButOne(int sort) {
        ArcGuesser x = Graphs.full(4, sort);
        x.hide(0, 3, true);
        return setAll(x);
    }

    private static ArcGuesser allHidden(int sort) {
        ArcGuesser x = Graphs.full(4, sort);
        x.since(0);
        return setAll(x);
    }

    private void cannotBeJudged() {
        refused("share()", -3, x -> x.share());
        for (int seed : new int[] {0, -1, MIN, MAX}) {
            refused("sample(" + seed + ")", -3, x -> x.sample(seed));
        }
        refused("learn(1, 1)", -3, x -> x.learn(1, 1));
        refused("learn(1024, 3)", -3, x -> x.learn(1024, 3));
        refused("learn(0, 1)", -2, x -> x.learn(0, 1));
        refused("learn(15, 1)", -2, x -> x.learn(15, 1));
        refused("learn(1, 0)", -2, x -> x.learn(1, 0));
        refused("learn(1, 4)", -2, x -> x.learn(1, 4));
        outsideRanking();
    }
}
