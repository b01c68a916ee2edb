/** Edges of promises 36 to 40: sheets, what the machine finds in them, counts. */
final class SheetEdges {
    private final Edges e;

    SheetEdges(Edges e) {
        this.e = e;
    }

    void run() {
        sheets();
        sheet();
        lay();
        lowestBits();
        read();
        readRefused();
        readFirstMet();
        torn();
        count();
    }

    private static ChimeShares town() {
        return Check.told("bell 0 1 0;bell 1 1 0;bell 2 1 0;tune 9 0 1;tune 9 0 2;tune 9 0 0;tune 9 0 1 2;");
    }

    private void sheets() {
        e.term("SHEETS 0 to 3 are rows of BYTES (lane 0), SHORTS (1), INTS (2) with 0 to 40 CELLS, or nothing (at first). A FAULT is what the "
            + "machine finds: 1 NULL (nothing), 2 INDEX, 3 CAST (another lane), 4 SIZE (below 0).");
        for (int k = 0; k < 4; k++) {
            ChimeShares x = town();
            e.due("lay(" + k + ", 0, 0): nothing", x.lay(k, 0, 0), -11);
            for (int lane = 0; lane < 3; lane++) {
                for (int n : new int[] {0, 1, 39, 40}) {
                    e.due("sheet(" + k + ", " + lane + ", " + n + ")", x.sheet(k, lane, n), 1);
                    e.due("lay at " + (n - 1), x.lay(k, n - 1, 1), n == 0 ? -12 : 1);
                    e.due("lay at " + n, x.lay(k, n, 1), -12);
                    x.hush();
                    e.due("read as of another lane", x.read(k, (lane + 1) % 3, 0, 1), 0);
                    e.due("torn()", x.torn(), 3);
                    e.due("read as of its lane", x.read(k, lane, n - 1, 2), n == 0 ? 0 : 1);
                    e.due("torn()", x.torn(), 2);
                }
                e.due("sheet of 41", x.sheet(k, lane, 41), -1);
                e.due("sheet of -1", x.sheet(k, lane, -1), -14);
            }
            for (int other = 0; other < 4; other++) {
                e.due("lay(" + other + ", 0, 0), sheet " + k + " told alone", x.lay(other, 0, 0), other == k ? 1 : -11);
            }
        }
    }

    private void sheet() {
        e.sentence(36, "A SHEET is a new row of CELLS 0: 1. BAD: also n above 40; -10 - 4.");
        ChimeShares x = town();
        x.sheet(0, 2, 3);
        for (int i = 0; i < 3; i++) {
            x.lay(0, i, 2);
        }
        e.due("sheet(0, 2, 3): new", x.sheet(0, 2, 3), 1);
        e.due("read(0, 2, 0, 3)", x.read(0, 2, 0, 3), 3);
        e.due("hush()", x.hush(), 3);
        x.read(0, 2, 0, 2);
        e.due("fits(2): its cells are 0", x.fits(2), 1);
        x.lay(0, 0, 1);
        e.due("sheet(0, 1, 40): longer", x.sheet(0, 1, 40), 1);
        e.due("count(6)", x.count(6), 40);
        e.due("sheet(0, 1, 0): shorter", x.sheet(0, 1, 0), 1);
        e.due("count(6)", x.count(6), 0);
        e.due("sheet(0, 0, 7)", x.sheet(0, 0, 7), 1);
        x.lay(0, 6, 1);
        for (int n : new int[] {41, 42, 1000, Integer.MAX_VALUE}) {
            e.due("sheet(0, 0, " + n + ")", x.sheet(0, 0, n), -1);
        }
        for (int n : new int[] {-1, -4, -40, Integer.MIN_VALUE}) {
            e.due("sheet(0, 0, " + n + ")", x.sheet(0, 0, n), -14);
            e.due("sheet(4, 0, " + n + "): BAD first", x.sheet(4, 0, n), -1);
            e.due("sheet(0, 3, " + n + "): BAD first", x.sheet(0, 3, n), -1);
        }
        e.due("sheet(4, 0, 1)", x.sheet(4, 0, 1), -1);
        e.due("sheet(0, 3, 1)", x.sheet(0, 3, 1), -1);
        for (int never : Edges.NEVER) {
            e.due("sheet(" + never + ", 0, 1)", x.sheet(never, 0, 1), -1);
            e.due("sheet(0, " + never + ", 1)", x.sheet(0, never, 1), -1);
        }
        e.due("count(6): as it was", x.count(6), 7);
        x.hush();
        x.read(0, 0, 0, 1);
        x.read(0, 0, 6, 1);
        e.due("fits(0): its cells are as they were", x.fits(0), 1);
        e.due("sheet(1, 0, -1) of nothing", x.sheet(1, 0, -1), -14);
        e.due("lay(1, 0, 0): nothing still", x.lay(1, 0, 0), -11);
    }

    private void lay() {
        e.sentence(37, "BAD: k; -10 less the FAULT: NULL, INDEX.");
        ChimeShares x = town();
        x.sheet(3, 0, 5);
        for (int i : new int[] {0, -1, 5, Integer.MIN_VALUE, Integer.MAX_VALUE}) {
            e.due("lay(0, " + i + ", 1): nothing, whatever the cell", x.lay(0, i, 1), -11);
            e.due("lay(4, " + i + ", 1)", x.lay(4, i, 1), -1);
            e.due("lay(3, " + i + ", 1)", x.lay(3, i, 1), i == 0 ? 1 : -12);
        }
        e.due("lay(3, 4, 1)", x.lay(3, 4, 1), 1);
        for (int never : Edges.NEVER) {
            e.due("lay(" + never + ", 0, 1)", x.lay(never, 0, 1), -1);
        }
        e.due("torn(): of read() alone", x.torn(), 0);
    }

    private void lowestBits() {
        e.sentence(37, "CELL i of a SHEET becomes v (its lowest bits): 1.");
        // A cell's value is seen by what a read of it answers: a stroke (0 to 2), a gap (-4), or BAD.
        int[][] due = {{0, 0, 0, 0}, {2, 2, 2, 2}, {-4, -4, -4, -4}, {3, -1, -1, -1}, {-1, -1, -1, -1}, {127, -1, -1, -1}, {128, -1, -1, -1},
            {252, -4, -1, -1}, {256, 0, -1, -1}, {258, 2, -1, -1}, {-254, 2, -1, -1}, {-256, 0, -1, -1}, {-260, -4, -1, -1},
            {65532, -4, -4, -1}, {65536, 0, 0, -1}, {65538, 2, 2, -1}, {-65534, 2, 2, -1}, {32768, 0, -1, -1}, {65276, -4, -1, -1},
            {Integer.MIN_VALUE, 0, 0, -1}, {Integer.MIN_VALUE + 2, 2, 2, -1}, {Integer.MAX_VALUE, -1, -1, -1},
            {Integer.MAX_VALUE - 3, -4, -4, -1}};
        for (int[] row : due) {
            for (int lane = 0; lane < 3; lane++) {
                int seen = row[1 + lane];
                ChimeShares x = town();
                x.sheet(1, lane, 3);
                e.due("lay(1, 1, " + row[0] + ")", x.lay(1, 1, row[0]), 1);
                e.due("read of " + row[0] + " in lane " + lane, x.read(1, lane, 1, 1), seen == -1 ? -20 : 1);
                x.hush();
                e.due("read of the cells beside it", x.read(1, lane, 0, 1) + x.read(1, lane, 2, 1), 2);
                e.hear(x, 0);
                x.read(1, lane, 1, 1);
                e.due("fits(1) with " + row[0] + " in lane " + lane, x.fits(1), seen == 2 || seen == -4 ? 1 : 0);
                e.due("fits(2) with " + row[0] + " in lane " + lane, x.fits(2), seen == 0 ? 1 : 0);
            }
        }
    }

    private void read() {
        e.sentence(38, "n (0 to 12) hear()s are read of a SHEET taken as of a lane from CELL f on: how many came.");
        ChimeShares x = town();
        x.sheet(2, 1, 40);
        x.lay(2, 39, 1);
        e.due("read(2, 1, 0, 0)", x.read(2, 1, 0, 0), 0);
        e.due("count(3)", x.count(3), 0);
        e.due("read(2, 1, 38, 1)", x.read(2, 1, 38, 1), 1);
        e.due("read(2, 1, 39, 1)", x.read(2, 1, 39, 1), 1);
        e.due("fits(0)", x.fits(0), 1);
        x.hush();
        e.due("read(2, 1, 38, 2)", x.read(2, 1, 38, 2), 2);
        e.due("fits(0)", x.fits(0), 1);
        x.hush();
        e.due("read(2, 1, 0, 12)", x.read(2, 1, 0, 12), 12);
        e.due("read(2, 1, 0, 0) of no room", x.read(2, 1, 0, 0), 0);
        e.due("count(3)", x.count(3), 12);
        e.sentence(38, "What the machine refuses: those ahead come (its FAULT is asked by torn()).");
        ChimeShares y = town();
        y.sheet(0, 0, 2);
        y.lay(0, 1, 1);
        dueRead(y, 0, 0, 0, 3, 2, 2);
        e.due("fits(0): those ahead came", y.fits(0), 1);
        dueRead(y, 0, 0, 1, 12, 1, 2);
        dueRead(y, 0, 0, 2, 1, 0, 2);
        dueRead(y, 0, 0, -1, 3, 0, 2);
        dueRead(y, 0, 0, Integer.MAX_VALUE, 12, 0, 2);
        dueRead(y, 0, 0, Integer.MIN_VALUE, 12, 0, 2);
        dueRead(y, 0, 1, 0, 1, 0, 3);
        dueRead(y, 0, 2, 9, 1, 0, 3);
        dueRead(y, 1, 0, 0, 1, 0, 1);
        dueRead(y, 1, 2, -1, 12, 0, 1);
        e.due("count(3)", y.count(3), 3);
        y.sheet(0, 0, 0);
        dueRead(y, 0, 0, 0, 1, 0, 2);
    }

    private void dueRead(ChimeShares x, int k, int lane, int f, int n, int came, int torn) {
        e.due("read(" + k + ", " + lane + ", " + f + ", " + n + ")", x.read(k, lane, f, n), came);
        e.due("torn() behind read(" + k + ", " + lane + ", " + f + ", " + n + ")", x.torn(), torn);
    }

    private void readRefused() {
        e.sentence(38, "BAD: k, lane, n; -20 less i: the i-th is BAD; FULL: there is no room for it: then none came; the first met.");
        ChimeShares x = town();
        x.sheet(0, 0, 40);
        e.due("read(4, 0, 0, 1)", x.read(4, 0, 0, 1), -1);
        e.due("read(0, 3, 0, 1)", x.read(0, 3, 0, 1), -1);
        e.due("read(0, 0, 0, 13)", x.read(0, 0, 0, 13), -1);
        e.due("read(0, 0, 0, -4)", x.read(0, 0, 0, -4), -1);
        e.due("read(1, 0, 0, 13): BAD ahead of what the machine finds", x.read(1, 0, 0, 13), -1);
        e.due("read(1, 3, 0, 1): BAD ahead of what the machine finds", x.read(1, 3, 0, 1), -1);
        for (int never : Edges.NEVER) {
            e.due("read(" + never + ", 0, 0, 1)", x.read(never, 0, 0, 1), -1);
            e.due("read(0, " + never + ", 0, 1)", x.read(0, never, 0, 1), -1);
            e.due("read(0, 0, 0, " + never + ")", x.read(0, 0, 0, never), -1);
        }
        e.due("count(3)", x.count(3), 0);
        for (int i = 0; i < 12; i++) {
            x.sheet(0, 0, 40);
            x.lay(0, 20 + i, 3);
            e.due("read of 12, the cell " + i + " of them BAD", x.read(0, 0, 20, 12), -20 - i);
            e.due("count(3): none came", x.count(3), 0);
            e.due("read of those ahead", x.read(0, 0, 20, i), i);
            e.due("hush()", x.hush(), i);
        }
        x.sheet(0, 0, 40);
        for (int had = 0; had <= 12; had++) {
            for (int n = 0; n <= 12; n++) {
                x.hush();
                for (int i = 0; i < had; i++) {
                    x.hear(0);
                }
                boolean hasRoom = had + n <= 12;
                e.due("read of " + n + " behind " + had, x.read(0, 0, 0, n), hasRoom ? n : -3);
                e.due("count(3)", x.count(3), hasRoom ? had + n : had);
            }
        }
    }

    private void readFirstMet() {
        ChimeShares x = town();
        x.sheet(0, 0, 3);
        x.lay(0, 2, 9);
        for (int i = 0; i < 10; i++) {
            x.hear(0);
        }
        e.due("read(0, 0, 0, 4): BAD at 2, where there is no room either", x.read(0, 0, 0, 4), -22);
        x.hear(0);
        e.due("read(0, 0, 0, 3): no room at 1, BAD at 2", x.read(0, 0, 0, 3), -3);
        e.due("read(0, 0, 1, 2): BAD at 1, where there is no room either", x.read(0, 0, 1, 2), -21);
        e.due("count(3)", x.count(3), 11);
        x.hear(0);
        e.due("read(0, 0, 2, 2): BAD at 0", x.read(0, 0, 2, 2), -20);
        e.due("read(0, 0, 1, 3): no room at 0", x.read(0, 0, 1, 3), -3);
        dueRead(x, 0, 0, 3, 1, 0, 2);
        dueRead(x, 0, 1, 0, 1, 0, 3);
        dueRead(x, 1, 0, 0, 1, 0, 1);
        x.hush();
        e.due("read(0, 0, 1, 3): BAD at 1, no cell at 2", x.read(0, 0, 1, 3), -21);
        x.lay(0, 2, 1);
        dueRead(x, 0, 0, 1, 3, 2, 2);
        for (int i = 0; i < 8; i++) {
            x.hear(0);
        }
        // Ten were heard: two cells fill the room, the third is not there; the machine is first.
        dueRead(x, 0, 0, 1, 12, 2, 2);
        e.due("count(3)", x.count(3), 12);
    }

    private void torn() {
        e.sentence(39, "The FAULT of the latest read() that came to an end; 0.");
        ChimeShares x = town();
        e.due("torn() ahead of all", x.torn(), 0);
        x.sheet(0, 0, 2);
        x.lay(0, 1, 3);
        dueRead(x, 0, 1, 0, 1, 0, 3);
        e.due("read(0, 0, 0, 2) is refused", x.read(0, 0, 0, 2), -21);
        e.due("torn(): as it was", x.torn(), 3);
        e.due("read(0, 0, 0, 13) is refused", x.read(0, 0, 0, 13), -1);
        e.due("torn(): as it was", x.torn(), 3);
        for (int i = 0; i < 12; i++) {
            x.hear(0);
        }
        e.due("read(0, 0, 0, 1) is refused", x.read(0, 0, 0, 1), -3);
        e.due("torn(): as it was", x.torn(), 3);
        x.lay(1, 0, 0);
        x.lay(0, 5, 0);
        x.sheet(1, 0, -1);
        e.due("torn(): what sheet() and lay() meet is not of it", x.torn(), 3);
        x.hush();
        dueRead(x, 0, 0, 0, 1, 1, 0);
        dueRead(x, 1, 0, 0, 1, 0, 1);
        dueRead(x, 0, 0, 0, 0, 0, 0);
        dueRead(x, 0, 0, 2, 1, 0, 2);
        Check.tell(x, "gap 1;");
        e.due("torn(): a text changes nothing of it", x.torn(), 2);
    }

    private void count() {
        e.sentence(40, "How many: 0 BELLS, 1 TUNES, 2 FEUDS, 3 HEARD, 4 IMAGES, 5 bytes on THE TAPE, 6 CELLS of SHEET 0 (NONE: nothing). BAD.");
        ChimeShares x = new ChimeShares();
        counts(x, 0, 0, 0, 0, 0, 0, -4);
        x.sheet(1, 0, 9);
        counts(x, 0, 0, 0, 0, 0, 0, -4);
        Check.tell(x, "houses 6;" + "bell 0 0 0;".repeat(12) + "tune 0 0;".repeat(6)
            + "feud0 1;feud0 2;feud0 3;feud0 4;feud0 5;feud1 2;feud1 3;feud1 4;feud1 5;");
        Check.put(x, "");
        x.feud(2, 3, true);
        x.feud(2, 4, true);
        x.feud(2, 5, true);
        x.feud(3, 4, true);
        x.feud(3, 5, true);
        x.feud(4, 5, true);
        for (int i = 0; i < 12; i++) {
            x.hear(0);
        }
        x.keep(0);
        x.keep(1);
        x.keep(1);
        for (int i = 0; i < 40; i++) {
            x.feed(0);
        }
        x.sheet(0, 1, 40);
        counts(x, 12, 6, 15, 12, 2, 320, 40);
        x.sheet(0, 2, 0);
        counts(x, 12, 6, 15, 12, 2, 320, 0);
        e.due("count(7)", x.count(7), -1);
        e.due("count(-4)", x.count(-4), -1);
        for (int never : Edges.NEVER) {
            e.due("count(" + never + ")", x.count(never), -1);
        }
    }

    private void counts(ChimeShares x, int... due) {
        for (int what = 0; what < due.length; what++) {
            e.due("count(" + what + ")", x.count(what), due[what]);
        }
    }
}
