import java.util.Arrays;

/** Makes graphs for the tests. */
final class Graphs {
    private Graphs() {
    }

    /** ARCS from ends[0] to ends[1] and so on, told in this order with the TIMES 0, 1, 2 .. */
    static ArcGuesser of(int n, int sort, int... ends) {
        ArcGuesser x = without(n, sort);
        for (int i = 0; i + 1 < ends.length; i += 2) {
            if (x.arc(ends[i], ends[i + 1], i / 2) != i / 2 + 1) {
                throw new IllegalStateException("arc number " + (i / 2 + 1) + " was not taken");
            }
        }
        return x;
    }

    static ArcGuesser without(int n, int sort) {
        ArcGuesser x = new ArcGuesser();
        if (x.graph(n, sort) < 1) {
            throw new IllegalStateException("graph(" + n + ", " + sort + ") was not taken");
        }
        return x;
    }

    /** All PAIRS have an ARC; the TIME is 0. */
    static ArcGuesser full(int n, int sort) {
        ArcGuesser x = without(n, sort);
        for (int a = 0; a < n; a++) {
            for (int b = 0; b < n; b++) {
                x.arc(a, b, 0);
            }
        }
        return x;
    }

    /** The PAIRS as 16 a and b, in their order. */
    static int[] pairs(int n, int sort) {
        int[] codes = new int[n * n];
        int total = 0;
        for (int a = 0; a < n; a++) {
            for (int b = 0; b < n; b++) {
                if (isPair(n, sort, a, b)) {
                    codes[total++] = 16 * a + b;
                }
            }
        }
        return Arrays.copyOf(codes, total);
    }

    private static boolean isPair(int n, int sort, int a, int b) {
        return switch (sort) {
            case 0 -> a < b;
            case 1 -> a != b;
            default -> a < n / 2 && n / 2 <= b;
        };
    }
}
