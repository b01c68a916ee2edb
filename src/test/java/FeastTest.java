/** Promises 24 to 29: feasts, rows round a bell, storms, wine. */
public final class FeastTest {
    private static final Check check = new Check("FeastTest");

    public static void main(String[] args) {
        feasts();
        fairFeasts();
        nearest();
        nearestOfNone();
        dear();
        storms();
        wine();
        check.close();
    }

    private static void feasts() {
        ChimeShares x = RingTest.town();
        int[][] due = {{7, 2}, {15, 6}, {27, 7}, {-4, -4}, {-4, -4}, {-4, -4}};
        for (int n = 1; n <= 6; n++) {
            check.due("feast(" + n + ", 0)", x.feast(n, 0), due[n - 1][0]);
            check.due("feast(" + n + ", 1)", x.feast(n, 1), due[n - 1][1]);
        }
        check.due("feast(0, 0)", x.feast(0, 0), -1);
        check.due("feast(7, 0)", x.feast(7, 0), -1);
        check.due("feast(6, 2)", x.feast(6, 2), -1);
        check.due("feast(1, -1)", x.feast(1, -1), -1);
        ChimeShares y = Check.told("bell 0 1 0;bell 0 1 0 shut;tune 1 0 0;tune 1 1;tune 1 0;tune 1 0;tune 1 0;tune 1 0;");
        check.due("feast(1, 0): what is silent costs nothing", y.feast(1, 0), 0);
        check.due("feast(1, 1)", y.feast(1, 1), 2);
        check.due("feast(3, 1): the least bits", y.feast(3, 1), 14);
        check.due("feast(3, 0)", y.feast(3, 0), 2);
        check.due("feast(6, 0)", y.feast(6, 0), 6);
        check.due("feast(6, 1)", y.feast(6, 1), 63);
    }

    private static void fairFeasts() {
        ChimeShares x = RingTest.town();
        check.due("fair(1, 0, 0)", x.fair(1, 0, 0), -4);
        check.due("fair(1, 1, 0)", x.fair(1, 1, 0), 7);
        check.due("fair(1, 1, 1)", x.fair(1, 1, 1), 2);
        check.due("fair(2, 1, 1)", x.fair(2, 1, 1), -4);
        check.due("fair(2, 2, 0)", x.fair(2, 2, 0), 19);
        check.due("fair(2, 2, 1)", x.fair(2, 2, 1), 3);
        check.due("fair(2, 3, 0)", x.fair(2, 3, 0), 15);
        check.due("fair(2, 3, 1)", x.fair(2, 3, 1), 6);
        check.due("fair(3, 3, 0)", x.fair(3, 3, 0), -4);
        check.due("fair(3, 4, 0)", x.fair(3, 4, 0), 27);
        check.due("fair(3, 72, 1)", x.fair(3, 72, 1), 7);
        check.due("fair(4, 72, 1)", x.fair(4, 72, 1), -4);
        check.due("fair(3, 73, 1)", x.fair(3, 73, 1), -1);
        check.due("fair(3, -1, 1)", x.fair(3, -1, 1), -1);
        check.due("fair(0, 1, 1)", x.fair(0, 1, 1), -1);
        check.due("fair(7, 1, 1)", x.fair(7, 1, 1), -1);
        check.due("fair(6, 1, 2)", x.fair(6, 1, 2), -1);
        check.due("fair(6, 1, -1)", x.fair(6, 1, -1), -1);
        for (int h = 0; h < 6; h++) {
            ChimeShares one = Check.told("houses 6;bell " + h + " 1 0;tune 9 0 0;tune 9 0 0 0;");
            check.due("fair(1, 1, 1) of house " + h, one.fair(1, 1, 1), -4);
            check.due("fair(1, 2, 1) of house " + h, one.fair(1, 2, 1), 1);
            check.due("fair(2, 4, 1) of house " + h, one.fair(2, 4, 1), -4);
            check.due("fair(2, 5, 0) of house " + h, one.fair(2, 5, 0), 5);
        }
        x.shut(1, true);
        check.due("fair(1, 0, 1): only what rings counts", x.fair(1, 0, 1), 4);
    }

    private static void nearest() {
        ChimeShares x = RingTest.town();
        row(x, 0, 0, 1, 1, 1, 2);
        row(x, 0, 1, 3, 0, 0, 0);
        row(x, 0, 2, 1, 0, 1, 1);
        row(x, 0, 3, 0, 0, 1, 2);
        row(x, 1, 3, 2, 2, 1, 2, 1);
        check.due("nearest(0, 0, 13)", x.nearest(0, 0, 13), -1);
        check.due("nearest(0, 0, 9)", x.nearest(0, 0, 9), -1);
        check.due("nearest(0, 0, 1)", x.nearest(0, 0, 1), -1);
        check.due("nearest(0, 0, -1)", x.nearest(0, 0, -1), -1);
        check.due("nearest(0, 4, 0)", x.nearest(0, 4, 0), -1);
        check.due("nearest(0, -4, 0)", x.nearest(0, -4, 0), -1);
        check.due("nearest(3, 0, 0)", x.nearest(3, 0, 0), -1);
        check.due("nearest(-1, 0, 0)", x.nearest(-1, 0, 0), -1);
    }

    private static void row(ChimeShares x, int t, int b, int sum, int... strokes) {
        String call = "nearest(" + t + ", " + b + ", ";
        check.due(call + "0)", x.nearest(t, b, 0), sum);
        for (int i = 0; i < strokes.length; i++) {
            check.due(call + (10 + i) + ")", x.nearest(t, b, 10 + i), strokes[i]);
        }
    }

    private static void nearestOfNone() {
        ChimeShares x = Check.told("bell 0 0 0;bell 0 0 0 shut;tune 1 0 0;");
        check.due("nearest(0, 0, 0)", x.nearest(0, 0, 0), -4);
        check.due("nearest(0, 0, 11)", x.nearest(0, 0, 11), -4);
        check.due("nearest(0, 0, 12)", x.nearest(0, 0, 12), -1);
        row(x, 0, 1, 0, 0, 0);
        check.due("dear(0): none at all is farther", x.dear(0), 0);
        x.shut(0, true);
        check.due("nearest(0, 1, 0)", x.nearest(0, 1, 0), -4);
        check.due("dear(0): of several the least", x.dear(0), 0);
        ChimeShares far = Check.told("bell 0 0 0;" + "bell 0 0 0 shut;".repeat(10)
            + "bell 0 0 0;tune 1 0 0 0 0 0 0 0 0 0 0 0 0;");
        check.due("nearest(0, 0, 0)", far.nearest(0, 0, 0), 132);
        check.due("nearest(0, 0, 21)", far.nearest(0, 0, 21), 11);
        check.due("dear(0)", far.dear(0), 0);
        far.shut(0, true);
        check.due("dear(0)", far.dear(0), 11);
    }

    private static void dear() {
        ChimeShares x = RingTest.town();
        check.due("dear(0)", x.dear(0), 1);
        check.due("dear(2)", x.dear(2), 1);
        check.due("dear(3)", x.dear(3), -1);
        check.due("dear(-1)", x.dear(-1), -1);
        check.due("dear(0) of no bells", new ChimeShares().dear(0), -1);
        ChimeShares y = Check.told("bell 0 0 0;bell 0 0 0;bell 0 0 0;tune 1 0 2;");
        check.due("dear(0): of several the least", y.dear(0), 0);
    }

    private static void storms() {
        ChimeShares x = RingTest.town();
        int[][] due = {{12, 99996}, {4, 99990}, {10, 100014}};
        for (int h = 0; h < 3; h++) {
            check.due("storm(" + h + ", 0)", x.storm(h, 0), due[h][0]);
            check.due("storm(" + h + ", 1)", x.storm(h, 1), due[h][1]);
        }
        check.due("storm(3, 0)", x.storm(3, 0), -1);
        check.due("storm(-1, 0)", x.storm(-1, 0), -1);
        check.due("storm(0, 2)", x.storm(0, 2), -1);
        check.due("storm(0, -1)", x.storm(0, -1), -1);
        check.due("storm(0, 0) of no bells", new ChimeShares().storm(0, 0), 0);
        check.due("storm(0, 1) of no bells", new ChimeShares().storm(0, 1), 100000);
    }

    private static void wine() {
        ChimeShares x = RingTest.town();
        int[][] due = {{0, 0, 0, 0}, {1, 0, 1, 0}, {10, 1, 6, 3}, {999, 143, 571, 285}};
        for (int[] row : due) {
            for (int h = 0; h < 3; h++) {
                check.due("wine(" + row[0] + ", " + h + ")", x.wine(row[0], h), row[1 + h]);
            }
        }
        ChimeShares y = Check.told("bell 0 0 0;bell 1 0 0;bell 2 0 0;tune 1 2 1 0;");
        int[] even = {2, 2, 1};
        for (int h = 0; h < 3; h++) {
            check.due("wine(5, " + h + "): of several the least", y.wine(5, h), even[h]);
        }
        check.due("wine(-1, 0)", x.wine(-1, 0), -1);
        check.due("wine(1000, 0)", x.wine(1000, 0), -1);
        check.due("wine(1, 3)", x.wine(1, 3), -1);
        check.due("wine(1, -1)", x.wine(1, -1), -1);
        check.due("wine(1, 0) of no tunes", new ChimeShares().wine(1, 0), -4);
        check.due("wine(1000, 0) of no tunes", new ChimeShares().wine(1000, 0), -1);
        for (int b = 0; b < 3; b++) {
            y.shut(b, true);
        }
        check.due("wine(0, 0): no strokes ring", y.wine(0, 0), -4);
    }
}
