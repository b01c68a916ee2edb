/** Answers that are due at the edges that the document names, each under the sentence that names it. */
final class Edges {
    /** Numbers that are never a house, a bell, a tune, a sheet or what is asked for. */
    static final int[] NEVER = {-1, -2, -3, -5, 100, Integer.MAX_VALUE, Integer.MIN_VALUE};

    final Check check;
    private final Doc doc;
    private String at = "";

    Edges(Check check, Doc doc) {
        this.check = check;
        this.doc = doc;
    }

    /** What comes next holds by these words of the terms. */
    void term(String words) {
        sentence(0, words);
    }

    /** What comes next holds by these words of a promise. */
    void sentence(int promise, String words) {
        at = (promise == 0 ? "Terms" : "Promise " + promise) + ", '" + words + "': ";
        check.isTrue(at + "stands in the document", !Doc.isThere() || doc.quote(promise, words));
    }

    void due(String call, long got, long want) {
        check.due(at + call, got, want);
    }

    /** A text that is taken by a new object. */
    ChimeShares taken(String text, int lines) {
        ChimeShares x = new ChimeShares();
        due("text() of '" + text + "'", Check.tell(x, text), lines);
        due("fault() of '" + text + "'", x.fault(), 0);
        due("count(5) behind '" + text + "'", x.count(5), 0);
        return x;
    }

    /** A text that is refused by a new object, which stays empty. */
    void refused(String text, int fault, int place) {
        ChimeShares x = new ChimeShares();
        due("text() of '" + text + "'", Check.tell(x, text), -10 - place);
        due("fault() of '" + text + "'", x.fault(), fault);
        due("count(5) behind '" + text + "'", x.count(5), 0);
        due("rule(0) behind '" + text + "'", x.rule(0), 3);
        due("rule(1) behind '" + text + "'", x.rule(1), 3);
        for (int what = 0; what <= 4; what++) {
            due("count(" + what + ") behind '" + text + "'", x.count(what), 0);
        }
    }

    void bell(ChimeShares x, int b, int... want) {
        for (int what = 0; what < want.length; what++) {
            due("bell(" + b + ", " + what + ")", x.bell(b, what), want[what]);
        }
    }

    void hear(ChimeShares x, int... strokes) {
        x.hush();
        for (int v : strokes) {
            x.hear(v);
        }
        due("count(3)", x.count(3), strokes.length);
    }
}
