import java.util.ArrayList;
import java.util.List;

/**
 * All that can be seen of an object, asked in a fixed order. Asking changes it, so two objects are
 * compared by a picture of each.
 */
final class Picture {
    /** 512 calls are promised, and some have been made before. */
    private static final int MOST_CALLS = 440;
    private static final int[] TIMES = {0, 1, 2, 3, 4, 5, 9998, 9999, 10000};

    private final ArcGuesser x;
    private final List<String> seen = new ArrayList<>();
    private int calls = 0;

    private Picture(ArcGuesser x) {
        this.x = x;
    }

    static List<String> of(ArcGuesser x) {
        Picture picture = new Picture(x);
        picture.takeAll();
        if (picture.calls > MOST_CALLS) {
            throw new IllegalStateException("the graph is too large for a picture");
        }
        return picture.seen;
    }

    private void takeAll() {
        takeBoard("at once");
        takeNumbers();
        int n = x.count(0);
        takeRanking();
        for (int a = 0; a < n; a++) {
            for (int b = 0; b < n; b++) {
                takePair(a, b);
            }
        }
        takeJudged();
        for (int node = 0; node < n; node++) {
            note("group(" + node + ", 0)", x.group(node, 0));
        }
        takeHidden("as it stands", n);
        for (int time : TIMES) {
            note("since(" + time + ")", x.since(time));
        }
        // What is drawn for which ARC shows their numbers.
        note("split(0, 2, 1)", x.split(0, 2, 1));
        takeHidden("after split(0, 2, 1)", n);
        note("split(3, 3, 0)", x.split(3, 3, 0));
        takeHidden("after split(3, 3, 0)", n);
    }

    private void note(String call, long answer) {
        calls++;
        seen.add(call + " answers " + answer);
    }

    private void takeBoard(String when) {
        note("top() " + when, x.top());
        note("bottom() " + when, x.bottom());
    }

    private void takeNumbers() {
        for (int what = 0; what <= 4; what++) {
            note("count(" + what + ")", x.count(what));
        }
        for (int measure = 0; measure <= 10; measure++) {
            note("weight(" + measure + ")", x.weight(measure));
        }
    }

    private void takeRanking() {
        int candidates = x.count(4);
        for (int k = 0; k < candidates; k++) {
            note("ranked(" + k + ")", x.ranked(k));
            note("among(" + k + ")", x.among(k + 1));
        }
    }

    /** These measures show v, w and s, and what leads where. */
    private void takePair(int a, int b) {
        int place = x.place(a, b);
        note("place(" + a + ", " + b + ")", place);
        if (place == -1) {
            return;
        }
        for (int measure : new int[] {6, 7, 9, 11}) {
            note("score(" + a + ", " + b + ", " + measure + ")", x.score(a, b, measure));
            takeBoard("after score(" + a + ", " + b + ", " + measure + ")");
        }
    }

    private void takeJudged() {
        note("share()", x.share());
        takeBoard("after share()");
        note("sample(7)", x.sample(7));
        takeBoard("after sample(7)");
    }

    private void takeHidden(String when, int n) {
        for (int a = 0; a < n; a++) {
            for (int b = a + 1; b < n; b++) {
                takeArc(a, b, when);
                takeArc(b, a, when);
            }
        }
    }

    /** hide tells what an ARC was; it is left as it was. */
    private void takeArc(int a, int b, String when) {
        int was = x.hide(a, b, true);
        note("hide(" + a + ", " + b + ") " + when, was);
        x.hide(a, b, was == 1);
        calls++;
    }
}
