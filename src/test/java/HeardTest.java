/** Promises 30 to 40: what was heard, images, sheets, counts. */
public final class HeardTest {
    private static final Check check = new Check("HeardTest");

    public static void main(String[] args) {
        hearing();
        fitting();
        which();
        images();
        sheets();
        lanes();
        reading();
        readingRefused();
        readingFaults();
        counts();
        check.close();
    }

    private static ChimeShares town() {
        return Check.told("bell 0 1 0;bell 1 1 0;bell 2 1 0;tune 9 0 1;tune 9 0 2;tune 9 0 0;tune 9 0 1 2;");
    }

    private static void hearing() {
        ChimeShares x = town();
        check.due("hear(3)", x.hear(3), -1);
        check.due("hear(-1)", x.hear(-1), -1);
        check.due("hear(-3)", x.hear(-3), -1);
        check.due("hear(-5)", x.hear(-5), -1);
        for (int i = 1; i <= 12; i++) {
            check.due("hear " + i, x.hear(i % 2 == 0 ? -4 : 2), i);
        }
        check.due("hear(0)", x.hear(0), -3);
        check.due("hear(-4)", x.hear(-4), -3);
        check.due("hear(3): BAD ahead of FULL", x.hear(3), -1);
        check.due("hush()", x.hush(), 12);
        check.due("hush()", x.hush(), 0);
        check.due("hear(0)", x.hear(0), 1);
        check.due("hear(0) of no bells", new ChimeShares().hear(0), -1);
        check.due("hear(-4) of no bells", new ChimeShares().hear(-4), 1);
    }

    private static void fitting() {
        ChimeShares x = town();
        check.due("fits(0) of nothing", x.fits(0), -2);
        check.due("fits(4) of nothing", x.fits(4), -1);
        check.due("fits(-1) of nothing", x.fits(-1), -1);
        x.hear(0);
        check.due("fits(0): too short", x.fits(0), 0);
        x.hear(-4);
        int[] due = {1, 1, 0, 0};
        for (int t = 0; t < 4; t++) {
            check.due("fits(" + t + ")", x.fits(t), due[t]);
        }
        x.sell(1, 0);
        check.due("fits(0): by the owner now", x.fits(0), 0);
        x.hush();
        x.hear(0);
        x.hear(0);
        check.due("fits(0): another stroke", x.fits(0), 0);
        check.due("fits(2)", x.fits(2), 1);
    }

    private static void which() {
        ChimeShares x = town();
        check.due("which(0)", x.which(0), -2);
        check.due("which(3)", x.which(3), -2);
        check.due("which(4)", x.which(4), -1);
        check.due("which(-1)", x.which(-1), -1);
        x.hear(0);
        dueWhich(x, 0, -4, -4, -4);
        x.hear(-4);
        dueWhich(x, 2, 0, 2, 0);
        x.hush();
        x.hear(-4);
        x.hear(-4);
        dueWhich(x, 3, 0, 3, 1);
        x.hush();
        x.hear(-4);
        x.hear(2);
        dueWhich(x, 1, 1, 1, 1);
        x.hush();
        x.hear(0);
        x.hear(0);
        dueWhich(x, 1, 2, 0, 0);
    }

    private static void dueWhich(ChimeShares x, int... due) {
        for (int what = 0; what < 4; what++) {
            check.due("which(" + what + ")", x.which(what), due[what]);
        }
    }

    private static void images() {
        ChimeShares x = RingTest.town();
        check.due("keep(2)", x.keep(2), -1);
        check.due("keep(-1)", x.keep(-1), -1);
        check.due("back(2)", x.back(2), -1);
        check.due("back(-1)", x.back(-1), -1);
        check.due("back(1)", x.back(1), -2);
        x.hear(1);
        x.hear(-4);
        check.due("keep(1)", x.keep(1), 0);
        check.due("count(4)", x.count(4), 1);
        change(x);
        check.due("keep(0)", x.keep(0), 0);
        check.due("keep(0)", x.keep(0), 1);
        check.due("count(4)", x.count(4), 2);
        check.due("back(1)", x.back(1), 0);
        int[][] bells = {{0, 5, 1, 0, -4}, {1, 4, 0, 0, 2}, {2, 3, 2, 0, -4}, {0, 1, 0, 1, -4}};
        for (int b = 0; b < 4; b++) {
            for (int what = 0; what < 5; what++) {
                check.due("bell(" + b + ", " + what + ")", x.bell(b, what), bells[b][what]);
            }
        }
        check.due("feuds(0)", x.feuds(0), 4);
        check.due("feuds(1)", x.feuds(1), 0);
        check.due("count(3)", x.count(3), 2);
        check.due("which(0)", x.which(0), 0);
        x.hush();
        x.hear(1);
        x.hear(1);
        check.due("which(1)", x.which(1), 2);
        x.keep(1);
        x.hush();
        x.hear(-4);
        x.hear(0);
        check.due("which(1)", x.which(1), -4);
        x.back(1);
        check.due("which(1): as it was heard then", x.which(1), 2);
        x.hear(2);
        check.due("back(0): none taken then", x.back(0), -4);
        check.due("bell(1, 0)", x.bell(1, 0), 0);
        check.due("feuds(1)", x.feuds(1), 4);
        check.due("count(3)", x.count(3), 0);
        check.due("count(4): images stay", x.count(4), 2);
        check.due("back(1): again", x.back(1), 0);
    }

    private static void change(ChimeShares x) {
        x.hush();
        for (int b = 0; b < 4; b++) {
            x.fee(b, 20);
        }
        x.shut(3, false);
        x.shut(0, true);
        x.sell(1, 0);
        x.half(2, 1);
        x.feud(0, 2, false);
        x.feud(1, 2, true);
        check.due("taken()", x.taken(), -4);
    }

    private static void sheets() {
        ChimeShares x = town();
        check.due("sheet(4, 0, 1)", x.sheet(4, 0, 1), -1);
        check.due("sheet(-1, 0, 1)", x.sheet(-1, 0, 1), -1);
        check.due("sheet(0, 3, 1)", x.sheet(0, 3, 1), -1);
        check.due("sheet(0, -1, 1)", x.sheet(0, -1, 1), -1);
        check.due("sheet(0, 0, 41)", x.sheet(0, 0, 41), -1);
        check.due("sheet(0, 0, -1)", x.sheet(0, 0, -1), -14);
        check.due("sheet(0, 3, -1)", x.sheet(0, 3, -1), -1);
        check.due("sheet(4, 0, least)", x.sheet(4, 0, Integer.MIN_VALUE), -1);
        check.due("count(6): nothing still", x.count(6), -4);
        check.due("lay(0, 0, 1)", x.lay(0, 0, 1), -11);
        check.due("lay(0, -1, 1)", x.lay(0, -1, 1), -11);
        check.due("lay(4, 0, 1)", x.lay(4, 0, 1), -1);
        check.due("lay(-1, 0, 1)", x.lay(-1, 0, 1), -1);
        check.due("sheet(0, 0, 0)", x.sheet(0, 0, 0), 1);
        check.due("count(6)", x.count(6), 0);
        check.due("lay(0, 0, 1)", x.lay(0, 0, 1), -12);
        check.due("sheet(0, 2, 40)", x.sheet(0, 2, 40), 1);
        check.due("count(6)", x.count(6), 40);
        check.due("lay(0, 39, 1)", x.lay(0, 39, 1), 1);
        check.due("lay(0, 40, 1)", x.lay(0, 40, 1), -12);
        check.due("lay(0, -1, 1)", x.lay(0, -1, 1), -12);
        check.due("sheet(0, 0, -5)", x.sheet(0, 0, -5), -14);
        check.due("count(6): as it was", x.count(6), 40);
        check.due("torn(): of read() alone", x.torn(), 0);
        check.due("lay(1, 0, 1): another sheet", x.lay(1, 0, 1), -11);
        check.due("sheet(0, 2, 40): new", x.sheet(0, 2, 40), 1);
        check.due("read(0, 2, 39, 1)", x.read(0, 2, 39, 1), 1);
        check.due("fits(0): a cell is 0 again", x.hear(1), 2);
        check.due("fits(0)", x.fits(0), 1);
    }

    private static void lanes() {
        int[][] due = {{252, 1, -20, -20}, {65532, 1, 1, -20}, {-4, 1, 1, 1}, {258, 1, -20, -20},
            {65538, 1, 1, -20}, {65792 + 252, 1, -20, -20}, {2, 1, 1, 1}, {3, -20, -20, -20}};
        for (int[] row : due) {
            for (int lane = 0; lane < 3; lane++) {
                ChimeShares x = town();
                x.sheet(3, lane, 2);
                check.due("lay(3, 1, " + row[0] + ")", x.lay(3, 1, row[0]), 1);
                check.due("read(3, " + lane + ", 1, 1)", x.read(3, lane, 1, 1), row[1 + lane]);
            }
        }
    }

    private static void reading() {
        ChimeShares x = town();
        x.sheet(2, 1, 12);
        x.lay(2, 1, 2);
        check.due("read(2, 1, 0, 0)", x.read(2, 1, 0, 0), 0);
        check.due("count(3)", x.count(3), 0);
        check.due("read(2, 1, 0, 2)", x.read(2, 1, 0, 2), 2);
        check.due("fits(1)", x.fits(1), 1);
        x.hush();
        check.due("read(2, 1, 0, 12)", x.read(2, 1, 0, 12), 12);
        check.due("read(2, 1, 0, 0) of no room", x.read(2, 1, 0, 0), 0);
        check.due("read(2, 1, 0, 1)", x.read(2, 1, 0, 1), -3);
        check.due("count(3)", x.count(3), 12);
    }

    private static void readingRefused() {
        ChimeShares x = town();
        check.due("read(4, 0, 0, 1)", x.read(4, 0, 0, 1), -1);
        check.due("read(-1, 0, 0, 1)", x.read(-1, 0, 0, 1), -1);
        check.due("read(0, 3, 0, 1)", x.read(0, 3, 0, 1), -1);
        check.due("read(0, -1, 0, 1)", x.read(0, -1, 0, 1), -1);
        check.due("read(0, 0, 0, 13)", x.read(0, 0, 0, 13), -1);
        check.due("read(0, 0, 0, -1)", x.read(0, 0, 0, -1), -1);
        x.sheet(0, 0, 3);
        x.lay(0, 2, 9);
        check.due("read(0, 0, 1, 3)", x.read(0, 0, 1, 3), -21);
        check.due("count(3): none came", x.count(3), 0);
        for (int i = 0; i < 10; i++) {
            x.hear(0);
        }
        check.due("read(0, 0, 0, 3): BAD is met with room or without", x.read(0, 0, 0, 3), -22);
        x.hear(0);
        check.due("read(0, 0, 0, 3): FULL is met first", x.read(0, 0, 0, 3), -3);
        check.due("count(3)", x.count(3), 11);
        x.hear(0);
        check.due("read(0, 0, 2, 1): BAD ahead of FULL", x.read(0, 0, 2, 1), -20);
    }

    private static void readingFaults() {
        ChimeShares x = town();
        check.due("read(0, 0, 0, 3)", x.read(0, 0, 0, 3), 0);
        check.due("torn(): nothing", x.torn(), 1);
        x.sheet(0, 1, 3);
        check.due("read(0, 1, 0, 4)", x.read(0, 1, 0, 4), 3);
        check.due("torn()", x.torn(), 2);
        check.due("count(3): those ahead come", x.count(3), 3);
        check.due("read(0, 1, 0, 1)", x.read(0, 1, 0, 1), 1);
        check.due("torn(): none", x.torn(), 0);
        for (int f : new int[] {-1, 3, Integer.MAX_VALUE, Integer.MIN_VALUE}) {
            check.due("read(0, 1, " + f + ", 12)", x.read(0, 1, f, 12), 0);
            check.due("torn()", x.torn(), 2);
            check.due("read(0, 2, " + f + ", 12)", x.read(0, 2, f, 12), 0);
            check.due("torn(): the cast is ahead of the index", x.torn(), 3);
        }
        x.lay(0, 1, 7);
        check.due("read(0, 1, 0, 4)", x.read(0, 1, 0, 4), -21);
        check.due("read(9, 1, 0, 4)", x.read(9, 1, 0, 4), -1);
        check.due("torn(): as it was", x.torn(), 3);
        for (int i = 0; i < 12; i++) {
            x.hear(-4);
        }
        check.due("read(0, 1, 0, 1)", x.read(0, 1, 0, 1), -3);
        check.due("torn(): as it was", x.torn(), 3);
        check.due("read(0, 1, 3, 1): what the machine finds is met first", x.read(0, 1, 3, 1), 0);
        check.due("torn()", x.torn(), 2);
        // Unclear in the document: where nothing is read, the machine finds nothing.
        check.due("read(0, 0, 9, 0)", x.read(0, 0, 9, 0), 0);
        check.due("torn()", x.torn(), 0);
    }

    private static void counts() {
        ChimeShares x = Check.told("houses 4;bell 0 0 0;bell 0 0 0;tune 1 0;tune 1 0;tune 1 0;feud 0 1;feud 2 1;feud 2 3;feud 3 0;");
        x.hear(0);
        x.hear(0);
        x.hear(0);
        x.hear(0);
        x.hear(0);
        x.keep(1);
        x.feed(0);
        x.sheet(0, 0, 9);
        x.sheet(1, 0, 11);
        int[] due = {2, 3, 4, 5, 1, 8, 9};
        for (int what = 0; what < due.length; what++) {
            check.due("count(" + what + ")", x.count(what), due[what]);
        }
        check.due("count(7)", x.count(7), -1);
        check.due("count(-1)", x.count(-1), -1);
    }
}
