/** Each promise of the document by answers that were worked out by hand from its words. */
public final class PromiseTest {
    private static final int[] FAR = {-1, Integer.MIN_VALUE, Integer.MAX_VALUE};

    private static final Checks CHECKS = new Checks();

    public static void main(String[] args) {
        promise1NewObject();
        promise2Graph();
        promise2AllAsAtFirst();
        promise3Arc();
        promise3Sorts();
        promise4Group();
        promise5Hide();
        promise6Since();
        promise7Split();
        promise8Count();
        promise9Paths();
        promise10Weigh();
        promise11Weight();
        promise12Plain();
        promise12WithWays();
        promise12TwoSided();
        promise12NothingToDivideBy();
        promise12AllSizes();
        promise12Fullest();
        promise12Refused();
        promises13And14Board();
        promise15Ranked();
        promise16Place();
        promise17Among();
        promise18Share();
        promise19Sample();
        promise20Learn();
        promise20FirstOfLikeOnes();
        promise20Refused();
        CHECKS.finish();
    }

    private static void due(String call, long got, long want) {
        CHECKS.due(call, got, want);
    }

    private static void promise1NewObject() {
        CHECKS.part("promise 1");
        ArcGuesser x = new ArcGuesser();
        due("count(0)", x.count(0), 2);
        due("count(1)", x.count(1), 1);
        due("count(2)", x.count(2), 0);
        due("count(3)", x.count(3), 0);
        due("count(4)", x.count(4), 1);
        CHECKS.board("new", x, 0, 1);
        due("weight(0)", x.weight(0), 101);
        for (int measure = 1; measure <= 10; measure++) {
            due("weight(" + measure + ")", x.weight(measure), 100);
        }
        due("ranked(0)", x.ranked(0), 1);
        due("arc(1, 0, 0)", x.arc(1, 0, 0), 1);
        due("arc(0, 1, 0)", x.arc(0, 1, 0), -3);
    }

    private static void promise2Graph() {
        CHECKS.part("promise 2");
        ArcGuesser x = new ArcGuesser();
        due("graph(2, 0)", x.graph(2, 0), 1);
        due("graph(2, 1)", x.graph(2, 1), 2);
        due("graph(2, 2)", x.graph(2, 2), 1);
        due("graph(3, 2)", x.graph(3, 2), 2);
        due("graph(5, 2)", x.graph(5, 2), 6);
        due("graph(12, 0)", x.graph(12, 0), 66);
        due("graph(12, 1)", x.graph(12, 1), 132);
        due("graph(12, 2)", x.graph(12, 2), 36);
        due("graph(11, 2)", x.graph(11, 2), 30);
        x.arc(0, 5, 7);
        x.weigh(3, 9);
        for (int n : new int[] {-1, 0, 1, 13, Integer.MIN_VALUE, Integer.MAX_VALUE}) {
            due("graph(" + n + ", 0)", x.graph(n, 0), -2);
        }
        for (int sort : new int[] {-1, 3, Integer.MIN_VALUE, Integer.MAX_VALUE}) {
            due("graph(4, " + sort + ")", x.graph(4, sort), -2);
        }
        due("count(0) after refusals", x.count(0), 11);
        due("count(1) after refusals", x.count(1), 30);
        due("count(2) after refusals", x.count(2), 1);
        due("weight(3) after refusals", x.weight(3), 109);
    }

    private static void promise2AllAsAtFirst() {
        CHECKS.part("promise 2, all as at first");
        ArcGuesser x = Graphs.of(3, 0, 0, 1, 1, 2, 0, 2);
        x.paths(5, 6, 1);
        x.group(0, 3);
        x.weigh(0, -7);
        x.weigh(10, 7);
        x.hide(0, 1, true);
        due("score", x.score(0, 2, 6), 1);
        due("graph(3, 0)", x.graph(3, 0), 3);
        CHECKS.board("graph(3, 0)", x, 0, 1);
        due("count(2)", x.count(2), 0);
        due("count(3)", x.count(3), 0);
        due("weight(0)", x.weight(0), 101);
        due("weight(10)", x.weight(10), 100);
        due("arc(0, 1, 0)", x.arc(0, 1, 0), 1);
        due("arc(1, 2, 0)", x.arc(1, 2, 0), 2);
        due("arc(0, 2, 0)", x.arc(0, 2, 0), 3);
        CHECKS.scored(x, 0, 1, 7, 4, 1);
        CHECKS.scored(x, 0, 1, 9, 1, 4);
        CHECKS.scored(x, 0, 1, 10, 2, 3);
        due("group(0, 0)", x.group(0, 0), 0);
        due("graph(3, 1)", x.graph(3, 1), 6);
        CHECKS.scored(x, 0, 1, 8, 0, 1);
        due("arc(2, 0, 0)", x.arc(2, 0, 0), 1);
        CHECKS.scored(x, 2, 1, 6, 0, 1);
    }

    private static void promise3Arc() {
        CHECKS.part("promise 3");
        ArcGuesser x = new ArcGuesser();
        x.graph(4, 0);
        due("arc(0, 1, 0)", x.arc(0, 1, 0), 1);
        due("arc(3, 2, 9999)", x.arc(3, 2, 9999), 2);
        due("arc(2, 3, 5)", x.arc(2, 3, 5), -3);
        due("arc(1, 2, -1)", x.arc(1, 2, -1), -2);
        due("arc(1, 2, 10000)", x.arc(1, 2, 10000), -2);
        due("arc(0, 1, 10000)", x.arc(0, 1, 10000), -2);
        due("arc(1, 1, -1)", x.arc(1, 1, -1), -1);
        due("arc(4, 0, 10000)", x.arc(4, 0, 10000), -1);
        for (int far : FAR) {
            due("arc(" + far + ", 0, 0)", x.arc(far, 0, 0), -1);
            due("arc(0, " + far + ", 0)", x.arc(0, far, 0), -1);
            due("arc(0, 2, " + far + ")", x.arc(0, 2, far), -2);
        }
        x.hide(0, 1, true);
        due("arc(0, 1, 4) of a HIDDEN one", x.arc(0, 1, 4), -3);
        due("count(3)", x.count(3), 1);
        due("count(2)", x.count(2), 2);
        due("since(1): the TIME told first stands", x.since(1), 1);
    }

    private static void promise3Sorts() {
        CHECKS.part("promise 3, sorts");
        ArcGuesser x = new ArcGuesser();
        x.graph(3, 1);
        due("arc(0, 1, 0)", x.arc(0, 1, 0), 1);
        due("arc(1, 0, 0)", x.arc(1, 0, 0), 2);
        due("arc(1, 0, 0) again", x.arc(1, 0, 0), -3);
        due("arc(2, 2, 0)", x.arc(2, 2, 0), -1);
        x.graph(5, 2);
        due("arc(0, 1, 0) of two left ones", x.arc(0, 1, 0), -1);
        due("arc(3, 2, 0) of two right ones", x.arc(3, 2, 0), -1);
        due("arc(2, 1, 0)", x.arc(2, 1, 0), 1);
        due("arc(1, 2, 0)", x.arc(1, 2, 0), -3);
        due("count(2) of all", Graphs.full(12, 1).count(2), 132);
        due("count(2) of all", Graphs.full(12, 0).count(2), 66);
        due("count(2) of all", Graphs.full(12, 2).count(2), 36);
    }

    private static void promise4Group() {
        CHECKS.part("promise 4");
        ArcGuesser x = Graphs.of(4, 0, 0, 1, 0, 2);
        due("group(0, 3)", x.group(0, 3), 0);
        due("group(0, 1)", x.group(0, 1), 3);
        due("group(0, 1)", x.group(0, 1), 1);
        due("group(3, 1)", x.group(3, 1), 0);
        due("group(4, 1)", x.group(4, 1), -1);
        due("group(4, 4)", x.group(4, 4), -1);
        due("group(0, 4)", x.group(0, 4), -2);
        due("group(0, -1)", x.group(0, -1), -2);
        for (int far : FAR) {
            due("group(" + far + ", 0)", x.group(far, 0), -1);
            due("group(0, " + far + ")", x.group(0, far), -2);
        }
        CHECKS.scored(x, 0, 1, 10, 1, 2);
        due("group(0, 0) after refusals", x.group(0, 0), 1);
    }

    private static void promise5Hide() {
        CHECKS.part("promise 5");
        ArcGuesser x = Graphs.of(4, 0, 0, 1, 1, 2);
        CHECKS.scored(x, 0, 2, 0, 1, 1);
        due("hide(1, 0, true)", x.hide(1, 0, true), 0);
        due("hide(0, 1, true)", x.hide(0, 1, true), 1);
        CHECKS.scored(x, 0, 2, 0, 0, 1);
        due("count(3)", x.count(3), 1);
        due("count(2)", x.count(2), 2);
        due("count(4)", x.count(4), 5);
        due("hide(0, 1, false)", x.hide(0, 1, false), 1);
        due("hide(0, 1, false)", x.hide(0, 1, false), 0);
        CHECKS.scored(x, 0, 2, 0, 1, 1);
        due("hide(0, 3, true)", x.hide(0, 3, true), -1);
        due("hide(0, 3, false)", x.hide(0, 3, false), -1);
        due("hide(2, 2, true)", x.hide(2, 2, true), -1);
        due("hide(4, 0, true)", x.hide(4, 0, true), -1);
        for (int far : FAR) {
            due("hide(" + far + ", 0, true)", x.hide(far, 0, true), -1);
            due("hide(0, " + far + ", true)", x.hide(0, far, true), -1);
        }
        due("count(3) after refusals", x.count(3), 0);
        ArcGuesser ways = Graphs.of(3, 1, 0, 1);
        due("hide(1, 0, true) with ways", ways.hide(1, 0, true), -1);
        due("hide(0, 1, true) with ways", ways.hide(0, 1, true), 0);
    }

    private static void promise6Since() {
        CHECKS.part("promise 6");
        ArcGuesser x = new ArcGuesser();
        due("since(0) without ARCS", x.since(0), 0);
        x.graph(4, 0);
        x.arc(0, 1, 15);
        x.arc(0, 2, 5);
        x.arc(0, 3, 10);
        due("since(10)", x.since(10), 2);
        due("hide(0, 1, true)", x.hide(0, 1, true), 1);
        due("hide(0, 2, false)", x.hide(0, 2, false), 0);
        due("hide(0, 3, true)", x.hide(0, 3, true), 1);
        due("since(11)", x.since(11), 1);
        due("hide(0, 3, true)", x.hide(0, 3, true), 0);
        due("since(16)", x.since(16), 0);
        due("since(0)", x.since(0), 3);
        due("since(MAX)", x.since(Integer.MAX_VALUE), 0);
        due("since(MIN)", x.since(Integer.MIN_VALUE), 3);
        due("since(9999)", x.since(9999), 0);
        CHECKS.scored(x, 1, 2, 0, 1, 1);
    }

    /** From seed 0 the draws leave 2 0 2 1 1 1 by 3; the third comes from a z below 0. */
    private static void promise7Split() {
        CHECKS.part("promise 7");
        ArcGuesser x = Graphs.of(4, 0, 2, 3, 0, 1, 1, 3, 0, 2, 0, 3, 1, 2);
        due("split(0, 3, 2)", x.split(0, 3, 2), 2);
        due("hide(2, 3, true): first", x.hide(2, 3, true), 1);
        due("hide(0, 1, false): second", x.hide(0, 1, false), 0);
        due("hide(1, 3, true): third", x.hide(1, 3, true), 1);
        due("split(0, 3, 0)", x.split(0, 3, 0), 1);
        due("hide(0, 1, true)", x.hide(0, 1, true), 1);
        due("split(0, 3, 1)", x.split(0, 3, 1), 3);
        due("split(-1, 3, 2)", x.split(-1, 3, 2), 3);
        due("split(MAX, 3, 1)", x.split(Integer.MAX_VALUE, 3, 1), 3);
        due("split(MIN, 3, 0)", x.split(Integer.MIN_VALUE, 3, 0), 2);
        due("split(-1, 20, 16)", x.split(-1, 20, 16), 2);
        due("split(-1, 20, 19)", x.split(-1, 20, 19), 0);
        due("split(5, 1, 0)", x.split(5, 1, 0), 6);
        due("split(5, 0, 0)", x.split(5, 0, 0), -2);
        due("split(5, 21, 0)", x.split(5, 21, 0), -2);
        due("split(5, 3, 3)", x.split(5, 3, 3), -2);
        due("split(5, 3, -1)", x.split(5, 3, -1), -2);
        for (int far : FAR) {
            due("split(0, " + far + ", 0)", x.split(0, far, 0), -2);
            due("split(0, 3, " + far + ")", x.split(0, 3, far), -2);
        }
        due("count(3) after refusals", x.count(3), 6);
    }

    private static void promise8Count() {
        CHECKS.part("promise 8");
        ArcGuesser x = Graphs.of(5, 1, 0, 1, 1, 0, 3, 4);
        x.hide(1, 0, true);
        due("count(0)", x.count(0), 5);
        due("count(1)", x.count(1), 20);
        due("count(2)", x.count(2), 3);
        due("count(3)", x.count(3), 1);
        due("count(4)", x.count(4), 18);
        due("count(5)", x.count(5), -2);
        for (int far : FAR) {
            due("count(" + far + ")", x.count(far), -2);
        }
        due("count(4) of all", Graphs.full(12, 1).count(4), 0);
    }

    /** In a triangle one way of two ARCS and three of three lead from one node to another. */
    private static void promise9Paths() {
        CHECKS.part("promise 9");
        ArcGuesser x = Graphs.of(3, 0, 0, 1, 1, 2, 0, 2);
        due("paths(0, 0, 1)", x.paths(0, 0, 1), 1);
        CHECKS.scored(x, 0, 1, 7, 0, 1);
        CHECKS.scored(x, 0, 1, 9, 1, 2);
        due("paths(9, 0, 2)", x.paths(9, 0, 2), 1);
        CHECKS.scored(x, 0, 1, 7, 9, 1);
        CHECKS.scored(x, 0, 1, 9, 1, 4);
        due("paths(2, 9, 2)", x.paths(2, 9, 2), 1);
        CHECKS.scored(x, 0, 1, 7, 29, 1);
        due("paths(10, 1, 1)", x.paths(10, 1, 1), -2);
        due("paths(1, 10, 1)", x.paths(1, 10, 1), -2);
        due("paths(1, 1, 0)", x.paths(1, 1, 0), -2);
        due("paths(1, 1, 3)", x.paths(1, 1, 3), -2);
        for (int far : FAR) {
            due("paths(" + far + ", 1, 1)", x.paths(far, 1, 1), -2);
            due("paths(1, " + far + ", 1)", x.paths(1, far, 1), -2);
            due("paths(1, 1, " + far + ")", x.paths(1, 1, far), -2);
        }
        CHECKS.scored(x, 0, 1, 7, 29, 1);
        CHECKS.scored(x, 0, 1, 9, 1, 4);
    }

    private static void promise10Weigh() {
        CHECKS.part("promise 10");
        ArcGuesser x = Graphs.of(3, 0, 0, 1, 1, 2);
        due("weigh(0, 99)", x.weigh(0, 99), 101);
        due("weigh(0, -99)", x.weigh(0, -99), 199);
        due("weigh(0, 2)", x.weigh(0, 2), 1);
        due("weigh(10, 5)", x.weigh(10, 5), 100);
        due("weigh(10, 0)", x.weigh(10, 0), 105);
        due("weigh(1, 3)", x.weigh(1, 3), 100);
        CHECKS.scored(x, 0, 2, 11, 5, 1);
        due("weigh(0, 100)", x.weigh(0, 100), -2);
        due("weigh(0, -100)", x.weigh(0, -100), -2);
        due("weigh(-1, 0)", x.weigh(-1, 0), -2);
        due("weigh(11, 0)", x.weigh(11, 0), -2);
        for (int far : FAR) {
            due("weigh(" + far + ", 0)", x.weigh(far, 0), -2);
        }
        due("weigh(0, MIN)", x.weigh(0, Integer.MIN_VALUE), -2);
        due("weigh(0, MAX)", x.weigh(0, Integer.MAX_VALUE), -2);
        CHECKS.scored(x, 0, 2, 11, 5, 1);
    }

    private static void promise11Weight() {
        CHECKS.part("promise 11");
        ArcGuesser x = new ArcGuesser();
        for (int measure = 0; measure <= 10; measure++) {
            x.weigh(measure, 9 * measure - 99);
        }
        for (int measure = 0; measure <= 10; measure++) {
            due("weight(" + measure + ")", x.weight(measure), 9 * measure + 1);
        }
        due("weight(11)", x.weight(11), -2);
        for (int far : FAR) {
            due("weight(" + far + ")", x.weight(far), -2);
        }
    }

    private static void scoredAll(ArcGuesser x, int a, int b, long... fractions) {
        for (int measure = 0; measure <= 10; measure++) {
            CHECKS.scored(x, a, b, measure, fractions[2 * measure], fractions[2 * measure + 1]);
        }
    }

    /**
     * OUT: 0 has 1 2 3; 1 has 0 4; 2 has 0 4; 3 has 0; 4 has 1 2 5; 5 has 4. (0, 4): A 1 2 3, B 1
     * 2 5. (3, 5): A 0, B 4, four ARCS apart.
     */
    private static void promise12Plain() {
        CHECKS.part("promise 12, plain");
        ArcGuesser x = Graphs.of(6, 0, 0, 1, 0, 2, 0, 3, 1, 4, 4, 2, 5, 4, 3, 5);
        due("hide(3, 5, true)", x.hide(3, 5, true), 0);
        x.group(4, 2);
        x.group(5, 2);
        x.paths(2, 5, 2);
        scoredAll(x, 0, 4, 2, 1, 1, 2, 2, 3, 2, 3, 2, 3, 1, 1, 9, 1, 4, 1, 1, 2, 1, 3, 1, 4);
        scoredAll(x, 4, 0, 2, 1, 1, 2, 2, 3, 2, 3, 2, 3, 1, 1, 9, 1, 4, 1, 1, 2, 1, 3, 1, 4);
        scoredAll(x, 3, 5, 0, 1, 0, 1, 0, 1, 0, 1, 0, 1, 0, 1, 1, 1, 0, 1, 1, 4, 0, 1, 1, 4);
        CHECKS.scored(x, 0, 5, 7, 10, 1);
        CHECKS.scored(x, 0, 5, 8, 1, 3);
        CHECKS.scored(x, 0, 1, 7, 25, 1);
        CHECKS.scored(x, 0, 1, 8, 1, 1);
        CHECKS.scored(x, 1, 3, 10, 3, 8);
        CHECKS.scored(x, 4, 5, 10, 1, 2);
        CHECKS.scored(x, 1, 3, 3, 1, 1);
        CHECKS.scored(x, 1, 3, 4, 1, 2);
        CHECKS.scored(x, 1, 3, 5, 1, 3);
        CHECKS.scored(x, 1, 3, 9, 1, 6);
        CHECKS.scored(x, 1, 3, 11, 1, 1);
    }

    /** ARCS 0-1 0-2 1-3 2-3 2-0 4-3, and 3-0 HIDDEN: nothing leads from 3, nothing to 4. */
    private static void promise12WithWays() {
        CHECKS.part("promise 12, with ways");
        ArcGuesser x = Graphs.of(5, 1, 0, 1, 0, 2, 1, 3, 2, 3, 2, 0, 4, 3, 3, 0);
        x.hide(3, 0, true);
        x.group(0, 1);
        x.group(2, 1);
        x.paths(3, 7, 2);
        scoredAll(x, 0, 3, 2, 1, 2, 3, 4, 5, 1, 1, 2, 3, 3, 2, 6, 1, 6, 1, 1, 2, 3, 4, 1, 3);
        scoredAll(x, 3, 0, 0, 1, 0, 1, 0, 1, 0, 1, 0, 1, 0, 1, 0, 1, 0, 1, 0, 1, 0, 1, 0, 1);
        CHECKS.scored(x, 2, 1, 9, 1, 4);
        CHECKS.scored(x, 2, 3, 7, 14, 1);
        CHECKS.scored(x, 2, 0, 10, 1, 2);
        CHECKS.scored(x, 1, 3, 10, 2, 9);
        CHECKS.scored(x, 0, 4, 8, 0, 1);
        x.paths(3, 7, 1);
        CHECKS.scored(x, 0, 3, 9, 0, 1);
        CHECKS.scored(x, 2, 3, 9, 1, 2);
        CHECKS.scored(x, 3, 2, 9, 0, 1);
    }

    /**
     * Left 0 1 2, right 3 4 5 6; ARCS 0-3 0-4 1-4 1-5 2-5, and 2-6 HIDDEN. (0, 5): A 3 4; IN(5) is
     * 1 2, and so B is 4 alone. (2, 3): A 5; IN(3) is 0, B 4.
     */
    private static void promise12TwoSided() {
        CHECKS.part("promise 12, two-sided");
        ArcGuesser x = Graphs.of(7, 2, 0, 3, 4, 0, 1, 4, 1, 5, 2, 5, 2, 6);
        x.hide(6, 2, true);
        x.group(0, 3);
        x.group(4, 3);
        x.group(5, 3);
        x.paths(4, 3, 2);
        scoredAll(x, 0, 5, 1, 1, 1, 2, 2, 3, 1, 1, 1, 2, 1, 2, 4, 1, 3, 1, 1, 3, 0, 1, 2, 9);
        scoredAll(x, 5, 0, 1, 1, 1, 2, 2, 3, 1, 1, 1, 2, 1, 2, 4, 1, 3, 1, 1, 3, 0, 1, 2, 9);
        scoredAll(x, 2, 3, 0, 1, 0, 1, 0, 1, 0, 1, 0, 1, 0, 1, 1, 1, 0, 1, 1, 5, 0, 1, 0, 1);
        CHECKS.scored(x, 0, 3, 10, 1, 3);
        CHECKS.scored(x, 1, 5, 10, 1, 3);
        CHECKS.scored(x, 2, 6, 8, 0, 1);
        CHECKS.scored(x, 0, 4, 0, 1, 1);
        CHECKS.scored(x, 0, 4, 1, 1, 3);
        x.paths(4, 3, 1);
        CHECKS.scored(x, 0, 4, 9, 1, 2);
    }

    private static void promise12NothingToDivideBy() {
        CHECKS.part("promise 12, no ARCS");
        for (int sort = 0; sort <= 2; sort++) {
            for (int n = 2; n <= 12; n++) {
                ArcGuesser x = Graphs.of(n, sort);
                for (int measure = 0; measure <= 11; measure++) {
                    CHECKS.scored(x, 0, n - 1, measure, 0, 1);
                }
            }
        }
    }

    /** ARCS from 0 to p nodes, and from q of the same nodes to 11: all sums up to 20 come. */
    private static void promise12AllSizes() {
        CHECKS.part("promise 12, all sizes of A and B");
        for (int p = 1; p <= 10; p++) {
            for (int q = 1; q <= 10; q++) {
                ArcGuesser x = new ArcGuesser();
                x.graph(12, 1);
                for (int z = 1; z <= 10; z++) {
                    due("arc from 0", z > p || x.arc(0, z, z) > 0 ? 1 : 0, 1);
                    due("arc to 11", z > q || x.arc(z, 11, z) > 0 ? 1 : 0, 1);
                }
                int less = Math.min(p, q);
                scoredLeast(x, 0, less, 1);
                scoredLeast(x, 1, less, Math.max(p, q));
                scoredLeast(x, 2, 2 * less, p + q);
                scoredLeast(x, 3, 1, 1);
                scoredLeast(x, 4, less, Math.max(p, q));
                scoredLeast(x, 5, less, 1);
                scoredLeast(x, 6, p * q, 1);
                scoredLeast(x, 7, less, 1);
                scoredLeast(x, 8, 1, 2);
                scoredLeast(x, 9, less, p);
                scoredLeast(x, 10, p + q, 144);
            }
        }
    }

    private static void scoredLeast(ArcGuesser x, int measure, long above, long below) {
        Fraction least = Fraction.of(above, below);
        CHECKS.scored(x, 0, 11, measure, least.above.longValue(), least.below.longValue());
    }

    private static void promise12Fullest() {
        CHECKS.part("promise 12, all ARCS");
        ArcGuesser x = Graphs.full(12, 1);
        x.paths(9, 9, 2);
        scoredAll(x, 0, 1, 10, 1, 5, 6, 10, 11, 10, 11, 10, 11, 10, 11, 121, 1, 1089, 1, 1, 1,
                10, 121, 11, 12);
        for (int measure = 0; measure <= 10; measure++) {
            x.weigh(measure, 99);
        }
        CHECKS.scored(x, 11, 0, 11, 5342499, 44);
        for (int measure = 0; measure <= 10; measure++) {
            x.weigh(measure, -99);
        }
        CHECKS.scored(x, 0, 11, 11, -5342499, 44);
        ArcGuesser least = Graphs.full(2, 0);
        least.paths(1, 1, 1);
        scoredAll(least, 0, 1, 0, 1, 0, 1, 0, 1, 0, 1, 0, 1, 0, 1, 1, 1, 1, 1, 1, 1, 1, 1, 1, 2);
    }

    private static void promise12Refused() {
        CHECKS.part("promise 12, refused");
        ArcGuesser x = Graphs.of(4, 0, 0, 1, 1, 2, 2, 3);
        CHECKS.scored(x, 0, 2, 2, 2, 3);
        due("score(0, 0, 0)", x.score(0, 0, 0), -1);
        due("score(0, 4, 0)", x.score(0, 4, 0), -1);
        due("score(0, 4, 12)", x.score(0, 4, 12), -1);
        due("score(0, 2, 12)", x.score(0, 2, 12), -2);
        for (int far : FAR) {
            due("score(" + far + ", 0, 0)", x.score(far, 0, 0), -1);
            due("score(0, " + far + ", 0)", x.score(0, far, 0), -1);
            due("score(0, 2, " + far + ")", x.score(0, 2, far), -2);
        }
        CHECKS.board("refusals", x, 2, 3);
        x.graph(4, 2);
        due("score(0, 1, 0) of two left ones", x.score(0, 1, 0), -1);
        due("score(3, 2, 0) of two right ones", x.score(3, 2, 0), -1);
    }

    private static void promises13And14Board() {
        CHECKS.part("promises 13 and 14");
        ArcGuesser x = Graphs.of(4, 0, 0, 1, 1, 2, 2, 3);
        x.weigh(0, 0);
        x.weigh(2, -6);
        CHECKS.scored(x, 0, 2, 11, -4, 1);
        x.weigh(1, 5);
        CHECKS.scored(x, 0, 2, 11, -3, 2);
        x.ranked(0);
        x.place(0, 2);
        x.among(1);
        x.count(4);
        x.weight(2);
        x.share();
        x.sample(4);
        x.learn(1, 1);
        x.hide(0, 1, true);
        x.group(0, 1);
        CHECKS.board("calls that ask no fraction, or are refused", x, -3, 2);
        x.weigh(2, 0);
        CHECKS.board("weigh", x, -3, 2);
        CHECKS.scored(x, 0, 2, 0, 0, 1);
    }

    private static void rankedDue(ArcGuesser x, int... codes) {
        for (int k = 0; k < codes.length; k++) {
            due("ranked(" + k + ")", x.ranked(k), codes[k]);
        }
        due("ranked(" + codes.length + ")", x.ranked(codes.length), -2);
    }

    private static void promise15Ranked() {
        CHECKS.part("promise 15");
        rankedDue(Graphs.of(4, 0), 1, 2, 3, 18, 19, 35);
        rankedDue(Graphs.of(3, 1), 1, 2, 16, 18, 32, 33);
        rankedDue(Graphs.of(5, 2), 2, 3, 4, 18, 19, 20);
        rankedDue(Graphs.full(12, 1));
        ArcGuesser x = Graphs.of(5, 0, 0, 1, 1, 2, 2, 3, 0, 4);
        // Common ones: (0, 2) by 1, (1, 3) by 2, (1, 4) by 0; none of (0, 3) (2, 4) (3, 4).
        rankedDue(x, 2, 19, 20, 3, 36, 52);
        x.hide(0, 4, true);
        rankedDue(x, 2, 19, 3, 4, 20, 36, 52);
        x.weigh(0, -1);
        rankedDue(x, 3, 4, 20, 36, 52, 2, 19);
        x.weigh(0, 0);
        rankedDue(x, 2, 3, 4, 19, 20, 36, 52);
        for (int far : FAR) {
            due("ranked(" + far + ")", x.ranked(far), -2);
        }
    }

    private static void promise16Place() {
        CHECKS.part("promise 16");
        ArcGuesser x = Graphs.of(5, 0, 0, 1, 1, 2, 2, 3, 0, 4);
        x.hide(0, 4, true);
        due("place(0, 2)", x.place(0, 2), 0);
        due("place(3, 1)", x.place(3, 1), 1);
        due("place(0, 3)", x.place(0, 3), 2);
        due("place(0, 4), HIDDEN", x.place(0, 4), 3);
        due("place(3, 4)", x.place(3, 4), 6);
        due("place(0, 1)", x.place(0, 1), -3);
        due("place(2, 1)", x.place(2, 1), -3);
        due("place(2, 2)", x.place(2, 2), -1);
        due("place(0, 5)", x.place(0, 5), -1);
        for (int far : FAR) {
            due("place(" + far + ", 0)", x.place(far, 0), -1);
            due("place(0, " + far + ")", x.place(0, far), -1);
        }
        ArcGuesser ways = Graphs.of(3, 1, 0, 1);
        due("place(1, 0) with ways", ways.place(1, 0), 1);
        due("place(0, 1) with ways", ways.place(0, 1), -3);
    }

    private static void promise17Among() {
        CHECKS.part("promise 17");
        ArcGuesser x = Graphs.of(5, 0, 0, 1, 1, 2, 2, 3, 0, 4, 1, 3);
        due("among(5): nothing is FOUND", x.among(5), 0);
        due("among(6)", x.among(6), -2);
        x.hide(0, 4, true);
        x.hide(1, 3, true);
        // THE RANKING is (0, 2) (1, 3) (0, 3) (0, 4) (1, 4) (2, 4) (3, 4).
        int[] due = {0, 0, 1, 1, 2, 2, 2, 2};
        for (int k = 0; k < due.length; k++) {
            due("among(" + k + ")", x.among(k), due[k]);
        }
        due("among(8)", x.among(8), -2);
        for (int far : FAR) {
            due("among(" + far + ")", x.among(far), -2);
        }
        due("among(0) of no CANDIDATES", Graphs.full(4, 0).among(0), 0);
        due("among(1) of no CANDIDATES", Graphs.full(4, 0).among(1), -2);
    }

    private static void shareDue(ArcGuesser x, long above, long below) {
        due("share()", x.share(), 1);
        CHECKS.board("share()", x, above, below);
    }

    private static void promise18Share() {
        CHECKS.part("promise 18");
        ArcGuesser x = Graphs.of(5, 0, 0, 1, 1, 2, 2, 3, 0, 4, 1, 3);
        CHECKS.scored(x, 0, 3, 1, 1, 3);
        due("share(): nothing FOUND", x.share(), -3);
        CHECKS.board("share(), refused", x, 1, 3);
        x.hide(0, 4, true);
        x.hide(1, 3, true);
        // FOUND are (1, 3) of 1 and (0, 4) of 0, EMPTY (0, 2) of 1 and four of 0.
        shareDue(x, 13, 20);
        x.weigh(0, -1);
        shareDue(x, 7, 20);
        x.weigh(0, 0);
        shareDue(x, 1, 2);
        x.weigh(0, 5);
        x.hide(0, 4, false);
        // (0, 2) has 1, (1, 3) has 2 and (1, 4) has 0 in common.
        shareDue(x, 4, 5);
        ArcGuesser full = Graphs.full(3, 1);
        due("share(): nothing FOUND, nothing EMPTY", full.share(), -3);
        full.since(0);
        due("share(): nothing EMPTY", full.share(), -3);
        ArcGuesser least = Graphs.of(3, 2, 0, 1);
        least.since(0);
        shareDue(least, 1, 2);
    }

    private static void sampleDue(ArcGuesser x, int seed, long above, long below) {
        due("sample(" + seed + ")", x.sample(seed), 1);
        CHECKS.board("sample(" + seed + ")", x, above, below);
    }

    /**
     * FOUND are (0, 2) of 1 and (0, 4) of 0; EMPTY are (0, 3) of 0, (1, 3) of 1, then three of 0.
     * What two draws leave by 5: 3 2 from seed 0, 1 3 from 4, 1 1 from 9, 2 1 from 12, 1 0 from -1,
     * 0 1 from 18, 1 0 from 21, 0 3 from 23.
     */
    private static void promise19Sample() {
        CHECKS.part("promise 19");
        ArcGuesser x = Graphs.of(5, 0, 0, 4, 0, 1, 1, 2, 2, 3, 0, 2);
        due("sample(0): nothing FOUND", x.sample(0), -3);
        x.hide(0, 2, true);
        x.hide(0, 4, true);
        sampleDue(x, 0, 3, 4);
        sampleDue(x, 4, 1, 2);
        sampleDue(x, 9, 1, 4);
        sampleDue(x, 12, 1, 2);
        sampleDue(x, -1, 1, 2);
        sampleDue(x, 18, 1, 2);
        sampleDue(x, 21, 1, 2);
        sampleDue(x, 23, 3, 4);
        due("sample(MIN)", x.sample(Integer.MIN_VALUE), 1);
        due("sample(MAX)", x.sample(Integer.MAX_VALUE), 1);
        sampleDue(x, 9, 1, 4);
        x.weigh(0, -3);
        sampleDue(x, 9, 3, 4);
        ArcGuesser full = Graphs.full(4, 2);
        full.since(0);
        due("sample(1): nothing EMPTY", full.sample(1), -3);
        CHECKS.board("sample(1), refused", full, 0, 1);
    }

    private static void weightsDue(ArcGuesser x, int... weights) {
        for (int measure = 0; measure <= 10; measure++) {
            int weight = measure < weights.length ? weights[measure] : 0;
            due("weight(" + measure + ")", x.weight(measure), 100 + weight);
        }
    }

    private static void learnDue(ArcGuesser x, int bits, int top, long above, long below) {
        String call = "learn(" + bits + ", " + top + ")";
        due(call, x.learn(bits, top), 1);
        CHECKS.board(call, x, above, below);
    }

    private static void promise20Learn() {
        CHECKS.part("promise 20");
        ArcGuesser x = Graphs.of(4, 0, 0, 1, 1, 2, 0, 2);
        x.hide(0, 2, true);
        x.weigh(9, -50);
        learnDue(x, 1, 3, 1, 1);
        weightsDue(x, 1);
        shareDue(x, 1, 1);
        // FOUND is (0, 3) alone, which every measure holds to be less likely than (0, 2).
        ArcGuesser worse = Graphs.of(4, 0, 0, 1, 1, 2, 0, 3);
        worse.hide(0, 3, true);
        shareDue(worse, 1, 3);
        learnDue(worse, 0b111, 3, 1, 2);
        weightsDue(worse);
        // (0, 2) is FOUND. OUT: 0 has 4; 1 has 4; 2 has 3; 3 has 2; 4 has 0 1. EMPTY are (0, 1)
        // and (0, 3) (1, 2) (1, 3) (2, 4) (3, 4): (0, 1) has 1 of measure 0, the others none.
        // Of measure 6 (0, 2) (0, 1) (0, 3) (1, 2) (1, 3) have 1, (2, 4) and (3, 4) 2.
        ArcGuesser six = Graphs.of(5, 0, 0, 4, 1, 4, 2, 3, 0, 2);
        six.hide(0, 2, true);
        learnDue(six, 1 << 6, 2, 1, 2);
        weightsDue(six);
        learnDue(six, 1, 2, 1, 2);
        weightsDue(six);
        // Measures 0 and 6 of the FOUND: (0, 4) 1 and 1, (1, 3) 0 and 2; of the EMPTY: (1, 2) 0
        // and 2, four others 0 and 1. By 2 and 1 (0, 4) is above all, (1, 3) above all but (1, 2).
        ArcGuesser both = Graphs.of(5, 0, 0, 1, 1, 4, 2, 3, 0, 4, 1, 3);
        both.since(3);
        learnDue(both, 0b1000001, 1, 9, 10);
        weightsDue(both, 1, 0, 0, 0, 0, 0, 1);
        learnDue(both, 0b1000001, 2, 19, 20);
        weightsDue(both, 2, 0, 0, 0, 0, 0, 1);
        learnDue(both, 0b1000001, 3, 19, 20);
        weightsDue(both, 2, 0, 0, 0, 0, 0, 1);
    }

    private static void promise20FirstOfLikeOnes() {
        CHECKS.part("promise 20, the first of like ones");
        // (0, 2) alone has anything of measures 0 and 6: any weight above 0 tells it apart.
        ArcGuesser x = Graphs.of(4, 0, 0, 1, 1, 2, 0, 2);
        x.hide(0, 2, true);
        learnDue(x, 0b1000001, 3, 1, 1);
        weightsDue(x, 0, 0, 0, 0, 0, 0, 1);
        learnDue(x, 0b11000000010, 3, 1, 1);
        weightsDue(x, 0, 0, 0, 0, 0, 0, 0, 0, 0, 1);
        learnDue(x, 0b10000000010, 3, 1, 1);
        weightsDue(x, 0, 1);
        learnDue(x, 0b111, 2, 1, 1);
        weightsDue(x, 0, 0, 1);
        learnDue(x, 0b1000010, 1, 1, 1);
        weightsDue(x, 0, 0, 0, 0, 0, 0, 1);
        // The WEIGHTS that stand before are no rivals: -99 of measure 8 is gone.
        x.weigh(8, -99);
        learnDue(x, 1 << 6, 1, 1, 1);
        weightsDue(x, 0, 0, 0, 0, 0, 0, 1);
    }

    private static void promise20Refused() {
        CHECKS.part("promise 20, refused");
        ArcGuesser x = Graphs.of(4, 0, 0, 1, 1, 2, 0, 2);
        x.weigh(4, 44);
        CHECKS.scored(x, 0, 3, 6, 0, 1);
        CHECKS.scored(x, 0, 1, 9, 1, 4);
        due("learn(1, 1): nothing FOUND", x.learn(1, 1), -3);
        due("learn(0, 1) before -3", x.learn(0, 1), -2);
        x.hide(0, 2, true);
        int[] wrong = {0, 1 << 11, 0b1111, 1 | 1 << 11, -1, 1 << 31, 1 | 1 << 31,
            Integer.MAX_VALUE, 0b10000010011};
        for (int bits : wrong) {
            due("learn(" + bits + ", 1)", x.learn(bits, 1), -2);
        }
        due("learn(1, 0)", x.learn(1, 0), -2);
        due("learn(1, 4)", x.learn(1, 4), -2);
        for (int far : FAR) {
            due("learn(1, " + far + ")", x.learn(1, far), -2);
        }
        CHECKS.board("learn, refused", x, 1, 4);
        weightsDue(x, 1, 0, 0, 0, 44);
        ArcGuesser full = Graphs.full(4, 0);
        full.since(0);
        due("learn(1, 1): nothing EMPTY", full.learn(1, 1), -3);
        weightsDue(full, 1);
    }
}
