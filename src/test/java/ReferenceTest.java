import java.util.Random;

/** Long runs of calls, right and wrong ones, held against the second reading of the document. */
public final class ReferenceTest {
    private static final int RUNS = 132;
    private static final int CALLS = 250;

    private final Checks checks;
    private final Random random;
    private final ArcGuesser x = new ArcGuesser();
    private final Reference due = new Reference();
    private int n = 2;

    private ReferenceTest(Checks checks, int seed) {
        this.checks = checks;
        this.random = new Random(seed);
    }

    public static void main(String[] args) {
        Checks checks = new Checks();
        for (int seed = 1; seed <= RUNS; seed++) {
            checks.part("run " + seed);
            new ReferenceTest(checks, seed).run(seed);
        }
        checks.finish();
    }

    private void run(int seed) {
        startGraph(seed);
        for (int call = 0; call < CALLS; call++) {
            oneCall();
            checks.due("top()", x.top(), due.top());
            checks.due("bottom()", x.bottom(), due.bottom());
        }
        lookAtAll();
    }

    /** Every size and sort comes, thinly or thickly set with arcs. */
    private void startGraph(int seed) {
        n = 2 + seed % 11;
        int sort = seed / 11 % 3;
        checks.due("graph", x.graph(n, sort), due.graph(n, sort));
        int likely = 1 + seed % 7;
        for (int a = 0; a < n; a++) {
            for (int b = 0; b < n; b++) {
                if (random.nextInt(8) < likely) {
                    int time = random.nextInt(20);
                    checks.due("arc", x.arc(a, b, time), due.arc(a, b, time));
                }
            }
        }
    }

    private void oneCall() {
        int a = random.nextInt(n + 2) - 1;
        int b = random.nextInt(n + 2) - 1;
        int seed = random.nextInt();
        int pick = random.nextInt(100);
        if (pick < 45) {
            changingCall(pick, a, b, seed);
        } else {
            askingCall(pick, a, b, seed);
        }
    }

    private void changingCall(int pick, int a, int b, int seed) {
        if (pick < 8) {
            int time = random.nextInt(30) == 0 ? seed : random.nextInt(20);
            same("arc", x.arc(a, b, time), due.arc(a, b, time), a, b, time);
        } else if (pick < 16) {
            boolean is = random.nextInt(3) < 2;
            same("hide", x.hide(a, b, is), due.hide(a, b, is), a, b, is ? 1 : 0);
        } else if (pick < 20) {
            int group = random.nextInt(6) - 1;
            same("group", x.group(a, group), due.group(a, group), a, group);
        } else if (pick < 22) {
            int time = random.nextInt(24) - 2;
            same("since", x.since(time), due.since(time), time);
        } else if (pick < 26) {
            int q = random.nextInt(23) - 1;
            int r = random.nextInt(Math.max(q, 0) + 2) - 1;
            same("split", x.split(seed, q, r), due.split(seed, q, r), seed, q, r);
        } else if (pick < 30) {
            int v = random.nextInt(12) - 1;
            int w = random.nextInt(12) - 1;
            int s = random.nextInt(4);
            same("paths", x.paths(v, w, s), due.paths(v, w, s), v, w, s);
        } else if (pick < 42) {
            int measure = random.nextInt(13) - 1;
            int weight = random.nextInt(203) - 101;
            same("weigh", x.weigh(measure, weight), due.weigh(measure, weight), measure, weight);
        } else {
            int bits = threeBits();
            int top = random.nextInt(5);
            same("learn", x.learn(bits, top), due.learn(bits, top), bits, top);
        }
    }

    private int threeBits() {
        int bits = 0;
        for (int i = random.nextInt(4); i >= 0; i--) {
            bits |= 1 << random.nextInt(12);
        }
        return random.nextInt(12) == 0 ? 0 : bits;
    }

    private void askingCall(int pick, int a, int b, int seed) {
        int k = random.nextInt(n * n + 3) - 2;
        int measure = random.nextInt(14) - 1;
        if (pick < 65) {
            same("score", x.score(a, b, measure), due.score(a, b, measure), a, b, measure);
        } else if (pick < 72) {
            same("ranked", x.ranked(k), due.ranked(k), k);
        } else if (pick < 79) {
            same("place", x.place(a, b), due.place(a, b), a, b);
        } else if (pick < 84) {
            same("among", x.among(k), due.among(k), k);
        } else if (pick < 89) {
            same("share", x.share(), due.share());
        } else if (pick < 94) {
            same("sample", x.sample(seed), due.sample(seed), seed);
        } else if (pick < 97) {
            same("count", x.count(k), due.count(k), k);
        } else {
            same("weight", x.weight(measure), due.weight(measure), measure);
        }
    }

    private void lookAtAll() {
        for (int what = 0; what <= 4; what++) {
            same("count", x.count(what), due.count(what), what);
        }
        for (int k = 0; k <= due.count(4); k++) {
            same("ranked", x.ranked(k), due.ranked(k), k);
            same("among", x.among(k), due.among(k), k);
        }
        for (int a = 0; a < n; a++) {
            for (int b = 0; b < n; b++) {
                same("place", x.place(a, b), due.place(a, b), a, b);
                for (int measure = 0; measure <= 11; measure++) {
                    same("score", x.score(a, b, measure), due.score(a, b, measure), a, b, measure);
                    same("top", x.top(), due.top());
                    same("bottom", x.bottom(), due.bottom());
                }
            }
        }
    }

    private void same(String name, long got, long want, int... args) {
        StringBuilder call = new StringBuilder(name).append('(');
        for (int i = 0; i < args.length; i++) {
            call.append(i == 0 ? "" : ", ").append(args[i]);
        }
        checks.due(call.append(')').toString(), got, want);
    }
}
