import java.util.ArrayList;
import java.util.Arrays;
import java.util.HashMap;
import java.util.HashSet;
import java.util.LinkedHashMap;
import java.util.LinkedHashSet;
import java.util.List;
import java.util.Map;
import java.util.Set;
import java.util.TreeSet;

/**
 * The document read a second time, slowly and by other means (sets, matrices, big fractions), so
 * that a slip in the one reading is seen by the other.
 */
final class Reference {
    private static final class Arc {
        final int time;
        boolean hidden;

        Arc(int time) {
            this.time = time;
        }
    }

    private int n;
    private int sort;
    private Set<List<Integer>> pairs;
    private Map<List<Integer>, Arc> arcs;
    private int[] groups;
    private int[] weights;
    private int v;
    private int w;
    private int s;
    private Fraction board;
    /** Measures stay as they are until a call changes arcs, groups or paths; kept for speed. */
    private final Map<List<Integer>, Fraction> kept = new HashMap<>();

    Reference() {
        graph(2, 0);
    }

    int graph(int nodes, int newSort) {
        if (nodes < 2 || nodes > 12 || newSort < 0 || newSort > 2) {
            return -2;
        }
        n = nodes;
        sort = newSort;
        pairs = new LinkedHashSet<>();
        for (int a = 0; a < n; a++) {
            for (int b = 0; b < n; b++) {
                boolean plain = sort == 0 && a < b;
                boolean ways = sort == 1 && a != b;
                boolean sides = sort == 2 && isLeft(a) && !isLeft(b);
                if (plain || ways || sides) {
                    pairs.add(List.of(a, b));
                }
            }
        }
        arcs = new LinkedHashMap<>();
        groups = new int[n];
        weights = new int[11];
        weights[0] = 1;
        v = 1;
        w = 1;
        s = 2;
        board = Fraction.ZERO;
        kept.clear();
        return pairs.size();
    }

    private boolean isLeft(int node) {
        return node < n / 2;
    }

    /** The PAIR that is meant, or null. */
    private List<Integer> pair(int a, int b) {
        if (pairs.contains(List.of(a, b))) {
            return List.of(a, b);
        }
        return sort != 1 && pairs.contains(List.of(b, a)) ? List.of(b, a) : null;
    }

    int arc(int a, int b, int time) {
        List<Integer> pair = pair(a, b);
        if (pair == null) {
            return -1;
        }
        if (time < 0 || time > 9999) {
            return -2;
        }
        if (arcs.containsKey(pair)) {
            return -3;
        }
        arcs.put(pair, new Arc(time));
        kept.clear();
        return arcs.size();
    }

    int group(int node, int group) {
        if (node < 0 || node >= n) {
            return -1;
        }
        if (group < 0 || group > 3) {
            return -2;
        }
        int before = groups[node];
        groups[node] = group;
        kept.clear();
        return before;
    }

    int hide(int a, int b, boolean is) {
        List<Integer> pair = pair(a, b);
        if (pair == null || !arcs.containsKey(pair)) {
            return -1;
        }
        int before = arcs.get(pair).hidden ? 1 : 0;
        arcs.get(pair).hidden = is;
        kept.clear();
        return before;
    }

    int since(int time) {
        arcs.values().forEach(arc -> arc.hidden = arc.time >= time);
        kept.clear();
        return count(3);
    }

    int split(int seed, int q, int r) {
        if (q < 1 || q > 20 || r < 0 || r > q - 1) {
            return -2;
        }
        List<Integer> row = row(seed, arcs.size());
        int number = 0;
        for (Arc arc : arcs.values()) {
            arc.hidden = row.get(number++) % q == r;
        }
        kept.clear();
        return count(3);
    }

    static List<Integer> row(int seed, int length) {
        List<Integer> row = new ArrayList<>();
        long z = seed & 0xFFFFFFFFL;
        for (int i = 0; i < length; i++) {
            z = (1664525L * z + 1013904223L) & 0xFFFFFFFFL;
            row.add((int) (z / 256));
        }
        return row;
    }

    int count(int what) {
        int hidden = (int) arcs.values().stream().filter(arc -> arc.hidden).count();
        int[] counts = {n, pairs.size(), arcs.size(), hidden, candidates().size()};
        return what < 0 || what > 4 ? -2 : counts[what];
    }

    int paths(int newV, int newW, int newS) {
        if (newV < 0 || newV > 9 || newW < 0 || newW > 9 || newS < 1 || newS > 2) {
            return -2;
        }
        v = newV;
        w = newW;
        s = newS;
        kept.clear();
        return 1;
    }

    int weigh(int measure, int weight) {
        if (measure < 0 || measure > 10 || weight < -99 || weight > 99) {
            return -2;
        }
        int before = weights[measure];
        weights[measure] = weight;
        return before + 100;
    }

    int weight(int measure) {
        return measure < 0 || measure > 10 ? -2 : weights[measure] + 100;
    }

    int score(int a, int b, int measure) {
        List<Integer> pair = pair(a, b);
        if (pair == null) {
            return -1;
        }
        if (measure < 0 || measure > 11) {
            return -2;
        }
        board = measure == 11 ? mix(pair) : measure(pair, measure);
        return 1;
    }

    long top() {
        return board.above.longValueExact();
    }

    long bottom() {
        return board.below.longValueExact();
    }

    int ranked(int k) {
        List<List<Integer>> ranking = ranking();
        if (k < 0 || k >= ranking.size()) {
            return -2;
        }
        return 16 * ranking.get(k).get(0) + ranking.get(k).get(1);
    }

    int place(int a, int b) {
        List<Integer> pair = pair(a, b);
        if (pair == null) {
            return -1;
        }
        int place = ranking().indexOf(pair);
        return place < 0 ? -3 : place;
    }

    int among(int k) {
        List<List<Integer>> ranking = ranking();
        if (k < 0 || k > ranking.size()) {
            return -2;
        }
        return (int) ranking.subList(0, k).stream().filter(arcs::containsKey).count();
    }

    int share() {
        if (found().isEmpty() || empty().isEmpty()) {
            return -3;
        }
        board = shareNow();
        return 1;
    }

    int sample(int seed) {
        List<List<Integer>> found = found();
        List<List<Integer>> empty = empty();
        if (found.isEmpty() || empty.isEmpty()) {
            return -3;
        }
        List<Integer> row = row(seed, found.size());
        Fraction sum = Fraction.ZERO;
        for (int i = 0; i < found.size(); i++) {
            sum = sum.plus(won(found.get(i), empty.get(row.get(i) % empty.size())));
        }
        board = sum.times(Fraction.of(1, found.size()));
        return 1;
    }

    int learn(int bits, int top) {
        List<Integer> chosen = new ArrayList<>();
        for (int i = 0; i < 32; i++) {
            if ((bits & (1 << i)) != 0) {
                chosen.add(i);
            }
        }
        boolean fits = chosen.size() >= 1 && chosen.size() <= 3
                && chosen.get(chosen.size() - 1) <= 10 && top >= 1 && top <= 3;
        if (!fits) {
            return -2;
        }
        if (found().isEmpty() || empty().isEmpty()) {
            return -3;
        }
        int[] bestWeights = null;
        Fraction best = null;
        for (int[] tried : allWeights(chosen, top)) {
            weights = tried;
            Fraction share = shareNow();
            if (best == null || share.compareTo(best) > 0) {
                best = share;
                bestWeights = tried;
            }
        }
        weights = bestWeights;
        board = best;
        return 1;
    }

    /** All weights for the chosen measures (rising numbers), that of the first rising last. */
    private static List<int[]> allWeights(List<Integer> chosen, int top) {
        List<int[]> all = new ArrayList<>();
        if (chosen.isEmpty()) {
            all.add(new int[11]);
            return all;
        }
        for (int weight = 0; weight <= top; weight++) {
            for (int[] rest : allWeights(chosen.subList(1, chosen.size()), top)) {
                rest[chosen.get(0)] = weight;
                all.add(rest);
            }
        }
        return all;
    }

    private Fraction shareNow() {
        Fraction sum = Fraction.ZERO;
        Map<List<Integer>, Fraction> mixes = new LinkedHashMap<>();
        candidates().forEach(pair -> mixes.put(pair, mix(pair)));
        for (List<Integer> f : found()) {
            for (List<Integer> e : empty()) {
                sum = sum.plus(half(mixes.get(f).compareTo(mixes.get(e))));
            }
        }
        return sum.times(Fraction.of(1, (long) found().size() * empty().size()));
    }

    private Fraction won(List<Integer> f, List<Integer> e) {
        return half(mix(f).compareTo(mix(e)));
    }

    private static Fraction half(int compared) {
        return Fraction.of(1 + Integer.signum(compared), 2);
    }

    private boolean isKnown(int a, int b) {
        List<Integer> pair = pair(a, b);
        return pair != null && arcs.containsKey(pair) && !arcs.get(pair).hidden;
    }

    private List<List<Integer>> candidates() {
        return pairs.stream().filter(p -> !isKnown(p.get(0), p.get(1))).toList();
    }

    private List<List<Integer>> found() {
        return candidates().stream().filter(arcs::containsKey).toList();
    }

    private List<List<Integer>> empty() {
        return candidates().stream().filter(p -> !arcs.containsKey(p)).toList();
    }

    private List<List<Integer>> ranking() {
        List<List<Integer>> ranking = new ArrayList<>(candidates());
        Map<List<Integer>, Fraction> mixes = new LinkedHashMap<>();
        ranking.forEach(pair -> mixes.put(pair, mix(pair)));
        ranking.sort((p, q) -> mixes.get(q).compareTo(mixes.get(p)));
        return ranking;
    }

    private Set<Integer> out(int x) {
        Set<Integer> nodes = new TreeSet<>();
        for (int y = 0; y < n; y++) {
            if (isKnown(x, y)) {
                nodes.add(y);
            }
        }
        return nodes;
    }

    private Set<Integer> in(int x) {
        Set<Integer> nodes = new TreeSet<>();
        for (int y = 0; y < n; y++) {
            if (isKnown(y, x)) {
                nodes.add(y);
            }
        }
        return nodes;
    }

    private Set<Integer> setB(int b) {
        if (sort != 2) {
            return in(b);
        }
        Set<Integer> nodes = new TreeSet<>();
        in(b).forEach(left -> nodes.addAll(out(left)));
        nodes.remove(b);
        return nodes;
    }

    private Fraction mix(List<Integer> pair) {
        Fraction sum = Fraction.ZERO;
        for (int m = 0; m <= 10; m++) {
            if (weights[m] != 0) {
                sum = sum.plus(measure(pair, m).times(Fraction.of(weights[m], 1)));
            }
        }
        return sum;
    }

    private Fraction measure(List<Integer> pair, int m) {
        List<Integer> key = List.of(pair.get(0), pair.get(1), m);
        if (!kept.containsKey(key)) {
            kept.put(key, measureAnew(pair.get(0), pair.get(1), m));
        }
        return kept.get(key);
    }

    private Fraction measureAnew(int a, int b, int m) {
        if (m >= 6) {
            return measureOfWays(a, b, m);
        }
        Set<Integer> setA = out(a);
        Set<Integer> setB = setB(b);
        Set<Integer> both = new HashSet<>(setA);
        both.retainAll(setB);
        Set<Integer> either = new HashSet<>(setA);
        either.addAll(setB);
        return switch (m) {
            case 0 -> Fraction.of(both.size(), 1);
            case 1 -> Fraction.by(both.size(), either.size());
            case 2 -> Fraction.by(2L * both.size(), setA.size() + setB.size());
            case 3 -> Fraction.by(both.size(), Math.min(setA.size(), setB.size()));
            case 4 -> Fraction.by(both.size(), Math.max(setA.size(), setB.size()));
            default -> both.stream().map(z -> Fraction.by(1, out(z).size()))
                    .reduce(Fraction.ZERO, Fraction::plus);
        };
    }

    private Fraction measureOfWays(int a, int b, int m) {
        return switch (m) {
            case 6 -> Fraction.of((long) out(a).size() * in(b).size(), 1);
            case 7 -> Fraction.of(v * power(2)[a][b] + w * power(3)[a][b], 1);
            case 8 -> {
                for (int length = 1; length <= n; length++) {
                    if (power(length)[a][b] > 0) {
                        yield Fraction.of(1, length);
                    }
                }
                yield Fraction.ZERO;
            }
            case 9 -> stands(a, s, b);
            default -> groupArcs(groups[a], groups[b]);
        };
    }

    private long[][] power(int length) {
        long[][] one = new long[n][n];
        for (int x = 0; x < n; x++) {
            for (int y = 0; y < n; y++) {
                one[x][y] = isKnown(x, y) ? 1 : 0;
            }
        }
        long[][] product = one;
        for (int i = 1; i < length; i++) {
            long[][] next = new long[n][n];
            for (int x = 0; x < n; x++) {
                for (int y = 0; y < n; y++) {
                    for (int z = 0; z < n; z++) {
                        next[x][y] += product[x][z] * one[z][y];
                    }
                }
            }
            product = next;
        }
        return product;
    }

    private Fraction stands(int at, int steps, int goal) {
        if (steps == 0) {
            return Fraction.of(at == goal ? 1 : 0, 1);
        }
        Fraction sum = Fraction.ZERO;
        for (int next : out(at)) {
            sum = sum.plus(stands(next, steps - 1, goal).times(Fraction.of(1, out(at).size())));
        }
        return sum;
    }

    private Fraction groupArcs(int groupA, int groupB) {
        long leading = 0;
        for (Map.Entry<List<Integer>, Arc> entry : arcs.entrySet()) {
            int from = groups[entry.getKey().get(0)];
            int to = groups[entry.getKey().get(1)];
            if (entry.getValue().hidden) {
                continue;
            }
            if (from == groupA && to == groupB) {
                leading++;
            }
            if (sort != 1 && to == groupA && from == groupB) {
                leading++;
            }
        }
        long sizeA = Arrays.stream(groups).filter(g -> g == groupA).count();
        long sizeB = Arrays.stream(groups).filter(g -> g == groupB).count();
        return Fraction.by(leading, sizeA * sizeB);
    }
}
