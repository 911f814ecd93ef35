/** Holds answers against the ones that are due, and ends a test with exit code 1 if one differs. */
final class Checks {
    private int wrong = 0;
    private int seen = 0;
    private String part = "";

    void part(String name) {
        part = name;
    }

    /** Names a test after a sentence of the document, which must stand there. */
    void sentence(Document document, String section, String sentence) {
        part(section + " \"" + sentence + "\"");
        holds("the document says so", document.says(section, sentence));
    }

    void due(String call, long got, long want) {
        seen++;
        if (got != want) {
            wrong++;
            System.out.println(part + ": " + call + " answered " + got + ", due is " + want);
        }
    }

    void holds(String what, boolean is) {
        seen++;
        if (!is) {
            wrong++;
            System.out.println(part + ": it does not hold that " + what);
        }
    }

    /** THE BOARD's fraction, as it stands. */
    void board(String call, ArcGuesser x, long above, long below) {
        due("top() after " + call, x.top(), above);
        due("bottom() after " + call, x.bottom(), below);
    }

    /** A score, and what THE BOARD shows of it. */
    void scored(ArcGuesser x, int a, int b, int measure, long above, long below) {
        String call = "score(" + a + ", " + b + ", " + measure + ")";
        due(call, x.score(a, b, measure), 1);
        board(call, x, above, below);
    }

    void finish() {
        if (wrong != 0) {
            System.out.println(wrong + " of " + seen + " answers are not as due");
            System.exit(1);
        }
        System.out.println("all " + seen + " answers are as due");
    }
}
