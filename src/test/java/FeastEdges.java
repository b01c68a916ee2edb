/** Edges of promises 24 to 29: feasts, rows round a bell, storms, wine. */
final class FeastEdges {
    private static final String TWELVE = " 0".repeat(12) + ";";
    private final Edges e;

    FeastEdges(Edges e) {
        this.e = e;
    }

    void run() {
        feasts();
        bounds();
        feast();
        fair();
        nearestRows();
        nearestTies();
        nearest();
        dear();
        storms();
        storm();
        wines();
        wine();
    }

    private void feasts() {
        e.term("A FEAST of n: n unlike TUNES with the least COST, summed; of several such the least bits.");
        ChimeShares x = Check.told("bell 0 1 0;bell 0 9 0 shut;tune 0 0 0;tune 0 0;tune 0 0;tune 0 0;tune 0 1 1;tune 0 0 0;");
        int[][] due = {{0, 16}, {1, 18}, {2, 22}, {3, 30}, {5, 31}, {7, 63}};
        for (int n = 1; n <= 6; n++) {
            e.due("feast(" + n + ", 0)", x.feast(n, 0), due[n - 1][0]);
            e.due("feast(" + n + ", 1)", x.feast(n, 1), due[n - 1][1]);
        }
        // The least bits, not the first tunes: 1 and 2 (6) are fewer than 0 and 3 (9).
        ChimeShares y = Check.told("bell 0 1 0;bell 0 2 0;bell 0 0 0;tune 0 2;tune 0 0;tune 0 0;tune 0 1;");
        e.due("feast(1, 1)", y.feast(1, 1), 1);
        e.due("feast(2, 1)", y.feast(2, 1), 3);
        y.fee(2, 3);
        e.due("feast(2, 1)", y.feast(2, 1), 6);
        e.due("feast(3, 1)", y.feast(3, 1), 14);
        y.fee(2, 2);
        y.fee(0, 2);
        e.due("feast(3, 1): all cost alike", y.feast(3, 1), 7);
    }

    private void bounds() {
        e.term("By a BOUND: among those in which no HOUSE (as OWNER) has more strokes that ring than so many.");
        for (int h = 0; h < 6; h++) {
            ChimeShares x = Check.told("houses 6;bell " + h + " 1 0;bell " + (h + 1) % 6 + " 9 0;tune 0 0 0;tune 0 1;tune 0 0;");
            e.due("fair(2, 3, 1), house " + h, x.fair(2, 3, 1), 5);
            e.due("fair(2, 2, 1), house " + h, x.fair(2, 2, 1), 6);
            e.due("fair(2, 1, 0), house " + h, x.fair(2, 1, 0), 10);
            e.due("fair(2, 0, 0), house " + h, x.fair(2, 0, 0), -4);
            e.due("fair(3, 3, 1), house " + h, x.fair(3, 3, 1), 7);
            e.due("fair(3, 2, 1), house " + h, x.fair(3, 2, 1), -4);
        }
        ChimeShares y = Check.told("bell 0 1 0 shut;bell 1 1 0 half 0;tune 0 0 0 0;tune 0 1 1;");
        e.due("fair(1, 0, 1): what is silent does not count", y.fair(1, 0, 1), 1);
        e.due("fair(2, 2, 1): nor does half of a bell", y.fair(2, 2, 1), 3);
        e.due("fair(2, 1, 1)", y.fair(2, 1, 1), -4);
        y.shut(0, false);
        e.due("fair(2, 3, 1)", y.fair(2, 3, 1), 3);
        e.due("fair(2, 2, 1)", y.fair(2, 2, 1), -4);
    }

    private void feast() {
        e.sentence(24, "A FEAST of n (1 to 6): COST (what 0), TUNES (1; bits).");
        ChimeShares x = Check.told("bell 0 20 0;" + ("tune 0" + TWELVE).repeat(6));
        e.due("feast(1, 0)", x.feast(1, 0), 240);
        e.due("feast(1, 1)", x.feast(1, 1), 1);
        e.due("feast(6, 0)", x.feast(6, 0), 1440);
        e.due("feast(6, 1)", x.feast(6, 1), 63);
        e.sentence(24, "BAD; NONE: there are not so many.");
        ChimeShares three = Check.told("bell 0 0 0;tune 0 0;tune 0 0;tune 0 0;");
        for (ChimeShares y : new ChimeShares[] {x, three, new ChimeShares()}) {
            e.due("feast(0, 0)", y.feast(0, 0), -1);
            e.due("feast(7, 0)", y.feast(7, 0), -1);
            e.due("feast(-4, 0)", y.feast(-4, 0), -1);
            e.due("feast(6, 2)", y.feast(6, 2), -1);
            for (int never : Edges.NEVER) {
                e.due("feast(" + never + ", 0)", y.feast(never, 0), -1);
                e.due("feast(6, " + never + ")", y.feast(6, never), -1);
            }
        }
        e.due("feast(3, 0): a cost of 0", three.feast(3, 0), 0);
        e.due("feast(3, 1)", three.feast(3, 1), 7);
        for (int n = 1; n <= 6; n++) {
            if (n > 3) {
                e.due("feast(" + n + ", 0) of three", three.feast(n, 0), -4);
                e.due("feast(" + n + ", 1) of three", three.feast(n, 1), -4);
            }
            e.due("feast(" + n + ", 0) of none", new ChimeShares().feast(n, 0), -4);
        }
    }

    private void fair() {
        e.sentence(25, "By a BOUND (0 to 72): likewise. BAD; NONE: none.");
        ChimeShares x = Check.told("bell 0 1 0;" + ("tune 0" + TWELVE).repeat(6));
        e.due("fair(6, 72, 0)", x.fair(6, 72, 0), 72);
        e.due("fair(6, 72, 1)", x.fair(6, 72, 1), 63);
        e.due("fair(6, 71, 0)", x.fair(6, 71, 0), -4);
        e.due("fair(5, 71, 1)", x.fair(5, 71, 1), 31);
        e.due("fair(1, 12, 1)", x.fair(1, 12, 1), 1);
        e.due("fair(1, 11, 1)", x.fair(1, 11, 1), -4);
        e.due("fair(1, 0, 1)", x.fair(1, 0, 1), -4);
        x.shut(0, true);
        e.due("fair(6, 0, 0)", x.fair(6, 0, 0), 0);
        e.due("fair(6, 0, 1)", x.fair(6, 0, 1), 63);
        e.due("fair(6, 73, 0)", x.fair(6, 73, 0), -1);
        e.due("fair(6, -4, 0)", x.fair(6, -4, 0), -1);
        e.due("fair(0, 0, 0)", x.fair(0, 0, 0), -1);
        e.due("fair(7, 0, 0)", x.fair(7, 0, 0), -1);
        e.due("fair(6, 0, 2)", x.fair(6, 0, 2), -1);
        ChimeShares none = new ChimeShares();
        for (int never : Edges.NEVER) {
            e.due("fair(" + never + ", 0, 0)", x.fair(never, 0, 0), -1);
            e.due("fair(1, " + never + ", 0)", x.fair(1, never, 0), -1);
            e.due("fair(1, 0, " + never + ")", x.fair(1, 0, never), -1);
            e.due("fair(1, " + never + ", 0) of none", none.fair(1, never, 0), -1);
        }
        e.due("fair(1, 72, 0) of none", none.fair(1, 72, 0), -4);
        e.due("fair(1, 73, 0) of none", none.fair(1, 73, 0), -1);
    }

    private void nearestRows() {
        e.term("NEAREST to a TUNE without a BELL: rows of as many STROKES without that BELL, of BELLS that are not SHUT, in which none is "
            + "SILENT, with the least sum of how far (by numbers) each STROKE is from that of the TUNE; of several the first by STROKES.");
        ChimeShares x = Check.told("bell 0 0 0;bell 0 0 0;bell 1 0 0;bell 0 0 0;tune 0 1;tune 0 1 2;tune 0 3 0 3;");
        row(x, 0, 0, 0, 1);
        row(x, 0, 1, 1, 0);
        row(x, 1, 2, 1, 1, 1);
        row(x, 2, 3, 2, 2, 0, 2);
        x.feud(0, 1, true);
        // 0 2 and 3 2 are as near each by itself, but bell 2 would be silent there: both must be of one house.
        row(x, 1, 1, 1, 2, 2);
        row(x, 1, 0, 1, 1, 1);
        row(x, 2, 3, 4, 1, 0, 1);
        x.shut(2, true);
        row(x, 1, 1, 2, 0, 3);
        x.shut(0, true);
        row(x, 1, 1, 3, 3, 3);
        row(x, 0, 1, 2, 3);
        x.shut(1, true);
        // The tune's own strokes may be shut: how far it is goes by numbers.
        row(x, 2, 2, 3, 3, 3, 3);
        ChimeShares far = Check.told("bell 0 0 0;" + "bell 0 0 0 shut;".repeat(10) + "bell 0 0 0;tune 0" + TWELVE);
        row(far, 0, 0, 132, 11, 11, 11, 11, 11, 11, 11, 11, 11, 11, 11, 11);
        row(far, 0, 11, 0, 0, 0, 0, 0, 0, 0, 0, 0, 0, 0, 0, 0);
    }

    private void nearestTies() {
        ChimeShares x = Check.told("bell 0 0 0;bell 0 0 0;bell 1 0 0;tune 0 1;tune 0 1 1;tune 0 1 2 1;");
        row(x, 0, 1, 1, 0);
        row(x, 1, 1, 2, 0, 0);
        row(x, 2, 1, 2, 0, 2, 0);
        x.feud(0, 1, true);
        row(x, 1, 1, 2, 0, 0);
        row(x, 2, 1, 2, 2, 2, 2);
        row(x, 2, 0, 1, 1, 1, 1);
        // 0 1 itself would be silent: of 0 0, 0 2 and 1 1, each 1 far off, the first.
        ChimeShares y = Check.told("bell 0 0 0;bell 1 0 0;bell 2 0 0;tune 0 0 1;feud 0 1;");
        row(y, 0, 2, 1, 0, 0);
        row(y, 0, 0, 1, 1, 1);
        row(y, 0, 1, 1, 0, 0);
    }

    private void row(ChimeShares x, int t, int b, int sum, int... strokes) {
        String call = "nearest(" + t + ", " + b + ", ";
        e.due(call + "0)", x.nearest(t, b, 0), sum);
        for (int i = 0; i < strokes.length; i++) {
            e.due(call + (10 + i) + ")", x.nearest(t, b, 10 + i), strokes[i]);
        }
        e.due(call + (10 + strokes.length) + ")", x.nearest(t, b, 10 + strokes.length), -1);
    }

    private void nearest() {
        e.sentence(26, "NEAREST to a TUNE without a BELL: the sum (what 0); 10 and i: STROKE i.");
        ChimeShares x = Check.told("bell 0 0 0;bell 0 0 0;tune 0 0 1;");
        row(x, 0, 0, 1, 1, 1);
        row(x, 0, 1, 1, 0, 0);
        e.sentence(26, "BAD; NONE: there is none.");
        e.due("nearest(1, 0, 0)", x.nearest(1, 0, 0), -1);
        e.due("nearest(0, 2, 0)", x.nearest(0, 2, 0), -1);
        e.due("nearest(0, -4, 0)", x.nearest(0, -4, 0), -1);
        e.due("nearest(-4, 0, 0)", x.nearest(-4, 0, 0), -1);
        for (int what = 1; what < 10; what++) {
            e.due("nearest(0, 0, " + what + ")", x.nearest(0, 0, what), -1);
        }
        x.shut(1, true);
        e.due("nearest(0, 0, 0)", x.nearest(0, 0, 0), -4);
        e.due("nearest(0, 0, 10)", x.nearest(0, 0, 10), -4);
        e.due("nearest(0, 0, 11)", x.nearest(0, 0, 11), -4);
        e.due("nearest(0, 0, 12): BAD ahead of NONE", x.nearest(0, 0, 12), -1);
        e.due("nearest(0, 0, 1): BAD ahead of NONE", x.nearest(0, 0, 1), -1);
        for (int never : Edges.NEVER) {
            e.due("nearest(" + never + ", 0, 0)", x.nearest(never, 0, 0), -1);
            e.due("nearest(0, " + never + ", 0)", x.nearest(0, never, 0), -1);
            e.due("nearest(0, 0, " + never + ")", x.nearest(0, 0, never), -1);
        }
        e.due("nearest(0, 1, 0)", x.nearest(0, 1, 0), 1);
        x.shut(0, true);
        e.due("nearest(0, 1, 0): all are shut", x.nearest(0, 1, 0), -4);
        ChimeShares one = Check.told("bell 0 0 0;tune 0 0;");
        e.due("nearest(0, 0, 0): there is no other bell", one.nearest(0, 0, 0), -4);
    }

    private void dear() {
        e.sentence(27, "The BELL without which NEAREST to a TUNE is farthest (none at all is farther), of several the least. BAD; NONE: no BELLS.");
        ChimeShares x = Check.told("bell 0 0 0;bell 0 0 0;bell 0 0 0;tune 0 1 1 2;tune 0 0 2;tune 0 2;");
        e.due("dear(0)", x.dear(0), 1);
        e.due("dear(1): of several the least", x.dear(1), 0);
        e.due("dear(2)", x.dear(2), 2);
        e.due("dear(3)", x.dear(3), -1);
        x.shut(0, true);
        x.shut(1, true);
        e.due("dear(0): none at all is farther", x.dear(0), 2);
        x.shut(2, true);
        e.due("dear(0): none at all, whichever it is", x.dear(0), 0);
        e.due("dear(0) of one bell", Check.told("bell 0 0 0;tune 0 0;").dear(0), 0);
        ChimeShares far = Check.told("bell 0 0 0;" + "bell 0 0 0 shut;".repeat(10) + "bell 0 0 0;tune 0" + TWELVE);
        e.due("dear(0): 132 is far, none at all is farther", far.dear(0), 0);
        far.shut(0, true);
        e.due("dear(0): none at all is farther than 132", far.dear(0), 11);
        for (int never : Edges.NEVER) {
            e.due("dear(" + never + ")", x.dear(never), -1);
        }
        // No bells means no tunes: there is no such tune, which comes first.
        e.due("dear(0) of no bells", new ChimeShares().dear(0), -1);
    }

    private void storms() {
        e.term("A STORM rings each BELL once, SHUT ones too, FEUDS or none. What they cost (twice the FEES) is paid by HOUSES by how many "
            + "BELLS they are OWNER of. BALANCE: BELLS (how many there are) times what it GETS, less what all cost times its own number.");
        ChimeShares x = Check.told("bell 0 5 0;bell 1 3 0 shut;bell 0 2 0 half 2;tune 0 0 0 0;feud 0 1;");
        storm(x, 0, 12, 100000 + 3 * 12 - 20 * 2);
        storm(x, 1, 6, 100000 + 3 * 6 - 20);
        storm(x, 2, 2, 100000 + 3 * 2);
        ChimeShares all = Check.told("bell 0 20 0;".repeat(12));
        storm(all, 0, 480, 100000);
        storm(all, 1, 0, 100000);
        for (int b = 0; b < 12; b++) {
            all.half(b, 1);
        }
        storm(all, 0, 240, 100000 - 2880);
        storm(all, 1, 240, 100000 + 2880);
        storm(all, 2, 0, 100000);
    }

    private void storm(ChimeShares x, int h, int gets, int balance) {
        e.due("storm(" + h + ", 0)", x.storm(h, 0), gets);
        e.due("storm(" + h + ", 1)", x.storm(h, 1), balance);
    }

    private void storm() {
        e.sentence(28, "A STORM: what a HOUSE GETS (what 0), its BALANCE and 100000 (1). BAD.");
        ChimeShares none = new ChimeShares();
        storm(none, 0, 0, 100000);
        storm(none, 2, 0, 100000);
        ChimeShares x = Check.told("houses 6;bell 5 4 0;bell 0 1 0;");
        storm(x, 5, 8, 100000 + 2 * 8 - 10);
        storm(x, 0, 2, 100000 + 2 * 2 - 10);
        e.due("storm(6, 0)", x.storm(6, 0), -1);
        e.due("storm(3, 0) of three houses", none.storm(3, 0), -1);
        e.due("storm(0, 2)", x.storm(0, 2), -1);
        for (int never : Edges.NEVER) {
            e.due("storm(" + never + ", 0)", x.storm(never, 0), -1);
            e.due("storm(0, " + never + ")", x.storm(0, never), -1);
        }
    }

    private void wines() {
        e.term("WINE by strokes: of w, each HOUSE gets w times its strokes that ring (as OWNER; of all TUNES), by all of these, divided down; "
            + "what is left goes by one each to those with the greatest rest, of several the least.");
        e.term("Divided down is to the next whole number below.");
        // 3, 3 and 1 strokes of seven.
        ChimeShares x = Check.told("bell 0 0 0;bell 1 0 0 half 2;bell 2 0 0;bell 0 0 0 shut;tune 0 0 1 0 3;tune 0 2 0 1 1 3;");
        wine(x, 0, 0, 0, 0);
        wine(x, 1, 1, 0, 0);
        wine(x, 2, 1, 1, 0);
        wine(x, 3, 1, 1, 1);
        wine(x, 4, 2, 2, 0);
        wine(x, 5, 2, 2, 1);
        wine(x, 6, 3, 2, 1);
        wine(x, 7, 3, 3, 1);
        wine(x, 8, 4, 3, 1);
        wine(x, 999, 428, 428, 143);
        ChimeShares six = Check.told("houses 6;bell 5 0 0;bell 4 0 0;bell 3 0 0;bell 2 0 0;bell 1 0 0;bell 0 0 0;tune 0 0 1 2 3 4 5;");
        wine(six, 5, 1, 1, 1, 1, 1, 0);
        wine(six, 7, 2, 1, 1, 1, 1, 1);
        wine(six, 999, 167, 167, 167, 166, 166, 166);
        // Those whose strokes do not ring get nothing of what is left.
        ChimeShares two = Check.told("bell 1 0 0;bell 2 0 0;tune 0 0 1;");
        wine(two, 1, 0, 1, 0);
        wine(two, 3, 0, 2, 1);
        ChimeShares one = Check.told("bell 2 0 0;" + ("tune 0" + TWELVE).repeat(6));
        wine(one, 999, 0, 0, 999);
    }

    private void wine(ChimeShares x, int w, int... due) {
        for (int h = 0; h < due.length; h++) {
            e.due("wine(" + w + ", " + h + ")", x.wine(w, h), due[h]);
        }
    }

    private void wine() {
        e.sentence(29, "WINE: of w (0 to 999) what a HOUSE gets. BAD; NONE: no strokes ring.");
        ChimeShares x = Check.told("bell 0 0 0;tune 0 0;");
        wine(x, 0, 0, 0, 0, -1);
        wine(x, 999, 999, 0, 0, -1);
        wine(x, 1000, -1, -1, -1, -1);
        wine(x, -4, -1, -1, -1, -1);
        x.shut(0, true);
        wine(x, 0, -4, -4, -4, -1);
        wine(x, 999, -4, -4, -4, -1);
        wine(x, 1000, -1, -1, -1, -1);
        for (int never : Edges.NEVER) {
            e.due("wine(0, " + never + ")", x.wine(0, never), -1);
            if (never != 100) {
                e.due("wine(" + never + ", 0)", x.wine(never, 0), -1);
            }
        }
        ChimeShares none = new ChimeShares();
        wine(none, 5, -4, -4, -4, -1);
        wine(none, 1000, -1, -1, -1, -1);
    }
}
