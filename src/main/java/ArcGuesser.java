import java.util.Arrays;

/**
 * Guesses the arcs that a small graph is likely to have: pairs without a known arc are scored by
 * eleven measures, mixed, ranked and judged by the arcs that are hidden.
 */
public final class ArcGuesser {
    private static final int NO_SUCH = -1;
    private static final int OUTSIDE = -2;
    private static final int NOT_AS_THINGS_STAND = -3;

    private static final int LEAST_NODES = 2;
    private static final int MOST_NODES = 12;
    private static final int MOST_PAIRS = MOST_NODES * (MOST_NODES - 1);
    private static final int WITH_WAYS = 1;
    private static final int TWO_SIDED = 2;
    private static final int LATEST_TIME = 9999;
    private static final int GROUPS = 4;
    private static final int NO_PAIR = -1;

    private static final int NO_ARC = 0;
    private static final int KNOWN = 1;
    private static final int HIDDEN = 2;

    private static final int MEASURES = 11;
    private static final int WHOLE_MIX = 11;
    private static final int MOST_PATH_FACTOR = 9;
    private static final int MOST_WEIGHT = 99;
    private static final int WEIGHT_SHIFT = 100;
    private static final int MOST_DIVISOR = 20;
    private static final int MOST_LEARNED = 3;
    private static final int MOST_LEARNED_WEIGHT = 3;
    private static final int NODE_SHIFT = 16;

    /**
     * A common denominator of all measures of all graphs: 1 to 22 (the sizes of A and B added up)
     * and all products of two degrees or two group sizes divide it. A MIX over it stays below 2 to
     * the 59, so exact fractions are added up and compared as longs, and no call makes an object.
     */
    private static final long SCALE = 64L * 81 * 25 * 49 * 121 * 13 * 17 * 19;

    private final Net net;
    private final Measures measures;
    private final Mix mix;
    private final Candidates candidates;
    private final Learner learner;
    private final Draws draws;
    private final Board board;

    public ArcGuesser() {
        net = new Net();
        measures = new Measures(net);
        mix = new Mix(measures);
        candidates = new Candidates(net);
        learner = new Learner();
        draws = new Draws();
        board = new Board();
        startAnew(LEAST_NODES, 0);
    }

    public int graph(int n, int sort) {
        if (!isWithin(n, LEAST_NODES, MOST_NODES) || !isWithin(sort, 0, TWO_SIDED)) {
            return OUTSIDE;
        }
        startAnew(n, sort);
        return net.pairTotal;
    }

    public int arc(int a, int b, int time) {
        int pair = net.pairFor(a, b);
        if (pair == NO_PAIR) {
            return NO_SUCH;
        }
        if (!isWithin(time, 0, LATEST_TIME)) {
            return OUTSIDE;
        }
        if (net.states[pair] != NO_ARC) {
            return NOT_AS_THINGS_STAND;
        }
        net.addArc(pair, time);
        return net.arcTotal;
    }

    public int group(int node, int group) {
        if (!net.isNode(node)) {
            return NO_SUCH;
        }
        if (!isWithin(group, 0, GROUPS - 1)) {
            return OUTSIDE;
        }
        int before = net.groups[node];
        net.groups[node] = group;
        return before;
    }

    public int hide(int a, int b, boolean is) {
        int pair = net.pairFor(a, b);
        if (pair == NO_PAIR || net.states[pair] == NO_ARC) {
            return NO_SUCH;
        }
        int before = net.states[pair] == HIDDEN ? 1 : 0;
        net.setHidden(pair, is);
        return before;
    }

    public int since(int time) {
        for (int number = 0; number < net.arcTotal; number++) {
            int pair = net.arcPairs[number];
            net.setHidden(pair, net.times[pair] >= time);
        }
        return net.hiddenArcs();
    }

    public int split(int seed, int q, int r) {
        if (!isWithin(q, 1, MOST_DIVISOR) || !isWithin(r, 0, q - 1)) {
            return OUTSIDE;
        }
        draws.startFrom(seed);
        for (int number = 0; number < net.arcTotal; number++) {
            net.setHidden(net.arcPairs[number], draws.next() % q == r);
        }
        return net.hiddenArcs();
    }

    public int count(int what) {
        switch (what) {
            case 0:
                return net.nodes;
            case 1:
                return net.pairTotal;
            case 2:
                return net.arcTotal;
            case 3:
                return net.hiddenArcs();
            case 4:
                return net.candidateTotal();
            default:
                return OUTSIDE;
        }
    }

    public int paths(int v, int w, int s) {
        if (!isWithin(v, 0, MOST_PATH_FACTOR) || !isWithin(w, 0, MOST_PATH_FACTOR)
                || !isWithin(s, 1, 2)) {
            return OUTSIDE;
        }
        measures.setPaths(v, w, s);
        return 1;
    }

    public int weigh(int measure, int weight) {
        if (!isMeasure(measure) || !isWithin(weight, -MOST_WEIGHT, MOST_WEIGHT)) {
            return OUTSIDE;
        }
        int before = mix.weights[measure];
        mix.weights[measure] = weight;
        return before + WEIGHT_SHIFT;
    }

    public int weight(int measure) {
        if (!isMeasure(measure)) {
            return OUTSIDE;
        }
        return mix.weights[measure] + WEIGHT_SHIFT;
    }

    public int score(int a, int b, int measure) {
        int pair = net.pairFor(a, b);
        if (pair == NO_PAIR) {
            return NO_SUCH;
        }
        if (!isMeasure(measure) && measure != WHOLE_MIX) {
            return OUTSIDE;
        }
        long parts = measure == WHOLE_MIX ? mix.mixOf(pair) : measures.partsOf(measure, pair);
        board.show(parts, SCALE);
        return 1;
    }

    public long top() {
        return board.above;
    }

    public long bottom() {
        return board.below;
    }

    public int ranked(int k) {
        if (k < 0 || k >= net.candidateTotal()) {
            return OUTSIDE;
        }
        rankAll();
        int pair = candidates.pairAtPlace(k);
        return NODE_SHIFT * net.from[pair] + net.to[pair];
    }

    public int place(int a, int b) {
        int pair = net.pairFor(a, b);
        if (pair == NO_PAIR) {
            return NO_SUCH;
        }
        if (net.states[pair] == KNOWN) {
            return NOT_AS_THINGS_STAND;
        }
        rankAll();
        return candidates.placeOfPair(pair);
    }

    public int among(int k) {
        if (k < 0 || k > net.candidateTotal()) {
            return OUTSIDE;
        }
        rankAll();
        return candidates.foundInFirst(k);
    }

    public int share() {
        candidates.gather();
        if (!candidates.canBeJudged()) {
            return NOT_AS_THINGS_STAND;
        }
        candidates.mixBy(mix);
        board.show(candidates.halvesWon(), candidates.halvesInAll());
        return 1;
    }

    public int sample(int seed) {
        candidates.gather();
        if (!candidates.canBeJudged()) {
            return NOT_AS_THINGS_STAND;
        }
        candidates.mixBy(mix);
        draws.startFrom(seed);
        board.show(candidates.halvesWonByDraws(draws), 2L * candidates.foundTotal);
        return 1;
    }

    public int learn(int bits, int top) {
        if (!Learner.canLearn(bits) || !isWithin(top, 1, MOST_LEARNED_WEIGHT)) {
            return OUTSIDE;
        }
        candidates.gather();
        if (!candidates.canBeJudged()) {
            return NOT_AS_THINGS_STAND;
        }
        learner.choose(bits);
        learner.measureAll(measures, candidates);
        int halves = learner.findBest(top, candidates);
        learner.handOver(mix.weights);
        board.show(halves, candidates.halvesInAll());
        return 1;
    }

    private void startAnew(int n, int sort) {
        net.lay(n, sort);
        measures.setPaths(1, 1, 2);
        mix.reset();
        board.show(0, 1);
    }

    private void rankAll() {
        candidates.gather();
        candidates.mixBy(mix);
        candidates.putInOrder();
    }

    private static boolean isWithin(int number, int least, int most) {
        return number >= least && number <= most;
    }

    private static boolean isMeasure(int measure) {
        return isWithin(measure, 0, MEASURES - 1);
    }

    /** The nodes, pairs and arcs; sets of nodes are the bits of an int. */
    private static final class Net {
        private int nodes;
        private int sort;
        private int pairTotal;
        private int arcTotal;
        private final int[] from = new int[MOST_PAIRS];
        private final int[] to = new int[MOST_PAIRS];
        private final int[] states = new int[MOST_PAIRS];
        private final int[] times = new int[MOST_PAIRS];
        private final int[] arcPairs = new int[MOST_PAIRS];
        private final int[] pairByNodes = new int[MOST_NODES * MOST_NODES];
        private final int[] groups = new int[MOST_NODES];
        private final int[] out = new int[MOST_NODES];
        private final int[] in = new int[MOST_NODES];

        private void lay(int n, int newSort) {
            nodes = n;
            sort = newSort;
            pairTotal = 0;
            arcTotal = 0;
            Arrays.fill(states, NO_ARC);
            Arrays.fill(pairByNodes, NO_PAIR);
            Arrays.fill(groups, 0);
            Arrays.fill(out, 0);
            Arrays.fill(in, 0);
            for (int a = 0; a < n; a++) {
                for (int b = 0; b < n; b++) {
                    if (makesPair(a, b)) {
                        addPair(a, b);
                    }
                }
            }
        }

        private boolean makesPair(int a, int b) {
            if (sort == WITH_WAYS) {
                return a != b;
            }
            if (sort == TWO_SIDED) {
                return a < nodes / 2 && b >= nodes / 2;
            }
            return a < b;
        }

        private void addPair(int a, int b) {
            from[pairTotal] = a;
            to[pairTotal] = b;
            pairByNodes[MOST_NODES * a + b] = pairTotal;
            if (sort != WITH_WAYS) {
                pairByNodes[MOST_NODES * b + a] = pairTotal;
            }
            pairTotal++;
        }

        private boolean isNode(int node) {
            return node >= 0 && node < nodes;
        }

        private int pairFor(int a, int b) {
            if (!isNode(a) || !isNode(b)) {
                return NO_PAIR;
            }
            return pairByNodes[MOST_NODES * a + b];
        }

        private void addArc(int pair, int time) {
            arcPairs[arcTotal] = pair;
            arcTotal++;
            times[pair] = time;
            setHidden(pair, false);
        }

        private void setHidden(int pair, boolean hidden) {
            int a = from[pair];
            int b = to[pair];
            states[pair] = hidden ? HIDDEN : KNOWN;
            setLeads(a, b, !hidden);
            if (sort != WITH_WAYS) {
                setLeads(b, a, !hidden);
            }
        }

        private void setLeads(int a, int b, boolean leads) {
            out[a] = leads ? out[a] | (1 << b) : out[a] & ~(1 << b);
            in[b] = leads ? in[b] | (1 << a) : in[b] & ~(1 << a);
        }

        private int hiddenArcs() {
            int hidden = 0;
            for (int number = 0; number < arcTotal; number++) {
                if (states[arcPairs[number]] == HIDDEN) {
                    hidden++;
                }
            }
            return hidden;
        }

        private int candidateTotal() {
            return pairTotal - arcTotal + hiddenArcs();
        }

        /** B of the document: between two sides, the other right nodes that share a left one. */
        private int comparedWith(int b) {
            if (sort != TWO_SIDED) {
                return in[b];
            }
            return leadsFrom(in[b]) & ~(1 << b);
        }

        private int leadsFrom(int set) {
            int reached = 0;
            for (int x = 0; x < nodes; x++) {
                if (has(set, x)) {
                    reached |= out[x];
                }
            }
            return reached;
        }

        private int membersOf(int group) {
            int members = 0;
            for (int x = 0; x < nodes; x++) {
                if (groups[x] == group) {
                    members |= 1 << x;
                }
            }
            return members;
        }

        private static boolean has(int set, int node) {
            return ((set >> node) & 1) == 1;
        }
    }

    /** The eleven measures, each in parts of SCALE. */
    private static final class Measures {
        private final Net net;
        private int twoArcFactor;
        private int threeArcFactor;
        private int wanderSteps;

        private Measures(Net net) {
            this.net = net;
        }

        private void setPaths(int v, int w, int s) {
            twoArcFactor = v;
            threeArcFactor = w;
            wanderSteps = s;
        }

        private long partsOf(int measure, int pair) {
            int a = net.from[pair];
            int b = net.to[pair];
            switch (measure) {
                case 0:
                case 1:
                case 2:
                case 3:
                case 4:
                    return overlap(measure, net.out[a], net.comparedWith(b));
                case 5:
                    return rareCommon(net.out[a] & net.comparedWith(b));
                case 6:
                    return SCALE * Integer.bitCount(net.out[a]) * Integer.bitCount(net.in[b]);
                case 7:
                    return SCALE * (twoArcFactor * waysOfTwo(a, b)
                            + threeArcFactor * waysOfThree(a, b));
                case 8:
                    return fraction(1, leastArcs(a, b));
                case 9:
                    return wander(a, b);
                case 10:
                    return betweenGroups(net.groups[a], net.groups[b]);
                default:
                    return 0;
            }
        }

        /** What would be divided by 0 is 0. */
        private static long fraction(int above, int below) {
            if (below <= 0) {
                return 0;
            }
            return above * (SCALE / below);
        }

        private static long overlap(int measure, int setA, int setB) {
            int common = Integer.bitCount(setA & setB);
            int sizeA = Integer.bitCount(setA);
            int sizeB = Integer.bitCount(setB);
            switch (measure) {
                case 1:
                    return fraction(common, Integer.bitCount(setA | setB));
                case 2:
                    return fraction(2 * common, sizeA + sizeB);
                case 3:
                    return fraction(common, Math.min(sizeA, sizeB));
                case 4:
                    return fraction(common, Math.max(sizeA, sizeB));
                default:
                    return fraction(common, 1);
            }
        }

        private long rareCommon(int common) {
            long sum = 0;
            for (int z = 0; z < net.nodes; z++) {
                if (Net.has(common, z)) {
                    sum += fraction(1, Integer.bitCount(net.out[z]));
                }
            }
            return sum;
        }

        private int waysOfTwo(int a, int b) {
            return Integer.bitCount(net.out[a] & net.in[b]);
        }

        private int waysOfThree(int a, int b) {
            int ways = 0;
            for (int x = 0; x < net.nodes; x++) {
                if (Net.has(net.out[a], x)) {
                    ways += waysOfTwo(x, b);
                }
            }
            return ways;
        }

        /** 0 where no arcs lead from a to b, so that 1 by it is 0. */
        private int leastArcs(int a, int b) {
            int reached = net.out[a];
            for (int arcs = 1; arcs < net.nodes; arcs++) {
                if (Net.has(reached, b)) {
                    return arcs;
                }
                reached |= net.leadsFrom(reached);
            }
            return 0;
        }

        private long wander(int a, int b) {
            int waysOut = Integer.bitCount(net.out[a]);
            if (wanderSteps == 1) {
                return Net.has(net.out[a], b) ? fraction(1, waysOut) : 0;
            }
            int between = net.out[a] & net.in[b];
            long sum = 0;
            for (int z = 0; z < net.nodes; z++) {
                if (Net.has(between, z)) {
                    sum += fraction(1, waysOut * Integer.bitCount(net.out[z]));
                }
            }
            return sum;
        }

        /** An arc that goes both ways stands in two out sets: so it counts twice in one group. */
        private long betweenGroups(int groupA, int groupB) {
            int membersA = net.membersOf(groupA);
            int membersB = net.membersOf(groupB);
            int leading = 0;
            for (int x = 0; x < net.nodes; x++) {
                if (Net.has(membersA, x)) {
                    leading += Integer.bitCount(net.out[x] & membersB);
                }
            }
            return fraction(leading, Integer.bitCount(membersA) * Integer.bitCount(membersB));
        }
    }

    /** The weights and the sum that they make of the measures. */
    private static final class Mix {
        private final Measures measures;
        private final int[] weights = new int[MEASURES];

        private Mix(Measures measures) {
            this.measures = measures;
        }

        private void reset() {
            Arrays.fill(weights, 0);
            weights[0] = 1;
        }

        private long mixOf(int pair) {
            long sum = 0;
            for (int measure = 0; measure < MEASURES; measure++) {
                if (weights[measure] != 0) {
                    sum += weights[measure] * measures.partsOf(measure, pair);
                }
            }
            return sum;
        }
    }

    /** The candidates, numbered in the order of pairs, with their mixes; filled anew by gather. */
    private static final class Candidates {
        private final Net net;
        private int total;
        private int foundTotal;
        private int emptyTotal;
        private final int[] pairs = new int[MOST_PAIRS];
        private final long[] mixes = new long[MOST_PAIRS];
        private final int[] founds = new int[MOST_PAIRS];
        private final int[] empties = new int[MOST_PAIRS];
        private final int[] order = new int[MOST_PAIRS];

        private Candidates(Net net) {
            this.net = net;
        }

        private void gather() {
            total = 0;
            foundTotal = 0;
            emptyTotal = 0;
            for (int pair = 0; pair < net.pairTotal; pair++) {
                if (net.states[pair] != KNOWN) {
                    addCandidate(pair);
                }
            }
        }

        private void addCandidate(int pair) {
            if (net.states[pair] == HIDDEN) {
                founds[foundTotal] = total;
                foundTotal++;
            } else {
                empties[emptyTotal] = total;
                emptyTotal++;
            }
            pairs[total] = pair;
            total++;
        }

        private void mixBy(Mix mix) {
            for (int i = 0; i < total; i++) {
                mixes[i] = mix.mixOf(pairs[i]);
            }
        }

        /** Like mixes never pass one another, so they stay in the order of pairs. */
        private void putInOrder() {
            for (int i = 0; i < total; i++) {
                int slot = i;
                while (slot > 0 && mixes[order[slot - 1]] < mixes[i]) {
                    order[slot] = order[slot - 1];
                    slot--;
                }
                order[slot] = i;
            }
        }

        private int pairAtPlace(int k) {
            return pairs[order[k]];
        }

        private int placeOfPair(int pair) {
            for (int k = 0; k < total; k++) {
                if (pairAtPlace(k) == pair) {
                    return k;
                }
            }
            return NOT_AS_THINGS_STAND;
        }

        private int foundInFirst(int k) {
            int found = 0;
            for (int i = 0; i < k; i++) {
                if (net.states[pairAtPlace(i)] == HIDDEN) {
                    found++;
                }
            }
            return found;
        }

        private boolean canBeJudged() {
            return foundTotal > 0 && emptyTotal > 0;
        }

        private int halvesInAll() {
            return 2 * foundTotal * emptyTotal;
        }

        /** Counted in halves, because like mixes are worth one half. */
        private int halvesWon() {
            int halves = 0;
            for (int f = 0; f < foundTotal; f++) {
                long mix = mixes[founds[f]];
                for (int e = 0; e < emptyTotal; e++) {
                    halves += halvesOf(mix, mixes[empties[e]]);
                }
            }
            return halves;
        }

        private int halvesWonByDraws(Draws draws) {
            int halves = 0;
            for (int f = 0; f < foundTotal && emptyTotal > 0; f++) {
                int rival = empties[draws.next() % emptyTotal];
                halves += halvesOf(mixes[founds[f]], mixes[rival]);
            }
            return halves;
        }

        private static int halvesOf(long foundMix, long emptyMix) {
            if (foundMix > emptyMix) {
                return 2;
            }
            return foundMix == emptyMix ? 1 : 0;
        }
    }

    /** Tries all weights of up to three measures; the measures are taken once, before the trials. */
    private static final class Learner {
        private int chosenTotal;
        private final int[] chosen = new int[MOST_LEARNED];
        private final int[] tried = new int[MOST_LEARNED];
        private final int[] best = new int[MOST_LEARNED];
        private final long[][] parts = new long[MOST_LEARNED][MOST_PAIRS];

        private static boolean canLearn(int bits) {
            boolean areMeasures = (bits >>> MEASURES) == 0;
            return areMeasures && isWithin(Integer.bitCount(bits), 1, MOST_LEARNED);
        }

        private void choose(int bits) {
            chosenTotal = 0;
            for (int measure = 0; measure < MEASURES && chosenTotal < MOST_LEARNED; measure++) {
                if (((bits >> measure) & 1) == 1) {
                    chosen[chosenTotal] = measure;
                    chosenTotal++;
                }
            }
        }

        private void measureAll(Measures measures, Candidates candidates) {
            for (int c = 0; c < chosenTotal; c++) {
                for (int i = 0; i < candidates.total; i++) {
                    parts[c][i] = measures.partsOf(chosen[c], candidates.pairs[i]);
                }
            }
        }

        /** Keeps the first of the best trials, and answers how many halves it wins. */
        private int findBest(int most, Candidates candidates) {
            int bestHalves = -1;
            int trials = trialTotal(most);
            for (int trial = 0; trial < trials; trial++) {
                setTried(trial, most);
                mixTried(candidates);
                int halves = candidates.halvesWon();
                if (halves > bestHalves) {
                    bestHalves = halves;
                    System.arraycopy(tried, 0, best, 0, chosenTotal);
                }
            }
            return bestHalves;
        }

        private int trialTotal(int most) {
            int trials = 1;
            for (int c = 0; c < chosenTotal; c++) {
                trials *= most + 1;
            }
            return trials;
        }

        /** The weights are the trial's digits; the least measure has the first, that rises last. */
        private void setTried(int trial, int most) {
            int base = Math.max(most, 1) + 1;
            int rest = trial;
            for (int c = chosenTotal - 1; c >= 0; c--) {
                tried[c] = rest % base;
                rest /= base;
            }
        }

        private void mixTried(Candidates candidates) {
            for (int i = 0; i < candidates.total; i++) {
                long sum = 0;
                for (int c = 0; c < chosenTotal; c++) {
                    sum += tried[c] * parts[c][i];
                }
                candidates.mixes[i] = sum;
            }
        }

        private void handOver(int[] weights) {
            Arrays.fill(weights, 0);
            for (int c = 0; c < chosenTotal; c++) {
                weights[chosen[c]] = best[c];
            }
        }
    }

    /** A row of draws from a seed. */
    private static final class Draws {
        private int z;

        private void startFrom(int seed) {
            z = seed;
        }

        private int next() {
            z = 1664525 * z + 1013904223;
            return z >>> 8;
        }
    }

    /** The fraction that was asked latest, in least numbers. */
    private static final class Board {
        /** Two longs have their greatest divisor after 92 divisions at the most. */
        private static final int MOST_DIVISIONS = 100;

        private long above;
        private long below = 1;

        private void show(long newAbove, long newBelow) {
            long divisor = greatestDivisor(Math.abs(newAbove), newBelow);
            if (divisor > 0) {
                above = newAbove / divisor;
                below = newBelow / divisor;
            }
        }

        private static long greatestDivisor(long x, long y) {
            long greater = x;
            long less = y;
            for (int i = 0; i < MOST_DIVISIONS && less != 0; i++) {
                long rest = greater % less;
                greater = less;
                less = rest;
            }
            return greater;
        }
    }
}
