/** Edges of promises 30 to 35: what was heard, images. */
final class HeardEdges {
    private final Edges e;

    HeardEdges(Edges e) {
        this.e = e;
    }

    void run() {
        hear();
        hush();
        fitting();
        fits();
        which();
        whichOfNone();
        keep();
        back();
    }

    private static ChimeShares town() {
        return Check.told("bell 0 1 0;bell 1 1 0;bell 2 1 0;tune 9 0 1;tune 9 0 2;tune 9 0 0;tune 9 0 1 2;");
    }

    private void hear() {
        e.term("HEARD: up to 12 STROKES or gaps.");
        ChimeShares x = town();
        for (int i = 1; i <= 12; i++) {
            e.due("hear " + i, x.hear(i % 4 == 3 ? -4 : i % 4), i);
        }
        e.due("hear the 13th", x.hear(0), -3);
        e.due("count(3)", x.count(3), 12);
        e.sentence(30, "HEARD: a STROKE more, or a gap (NONE): how many there are. BAD; FULL.");
        e.due("hear(-4) of no room", x.hear(-4), -3);
        e.due("hear(3) of no room: BAD ahead of FULL", x.hear(3), -1);
        x.hush();
        e.due("hear(-4)", x.hear(-4), 1);
        e.due("hear(2)", x.hear(2), 2);
        e.due("hear(3): no such bell", x.hear(3), -1);
        for (int never : Edges.NEVER) {
            e.due("hear(" + never + ")", x.hear(never), -1);
        }
        e.due("count(3)", x.count(3), 2);
        e.due("hear(0) of no bells", new ChimeShares().hear(0), -1);
        e.due("hear(-4) of no bells", new ChimeShares().hear(-4), 1);
        x.shut(2, true);
        e.due("hear(2), which is shut", x.hear(2), 3);
    }

    private void hush() {
        e.sentence(31, "Nothing is HEARD: how many there were.");
        ChimeShares x = town();
        e.due("hush() of nothing", x.hush(), 0);
        for (int i = 0; i < 12; i++) {
            x.hear(0);
        }
        e.due("hush() of twelve", x.hush(), 12);
        e.due("count(3)", x.count(3), 0);
        e.due("hush() again", x.hush(), 0);
        e.due("fits(0)", x.fits(0), -2);
        e.due("hear(1): there is room again", x.hear(1), 1);
    }

    private void fitting() {
        e.term("It FITS a TUNE, if it is as long, each STROKE is as there, or a gap, and no HOUSE (as OWNER) both rang and is in a gap: "
            + "those in gaps REFUSED.");
        ChimeShares x = town();
        e.hear(x, 0);
        fits(x, 0, 0, 0, 0);
        e.hear(x, 0, 1);
        fits(x, 1, 0, 0, 0);
        e.hear(x, 0, 1, 2);
        fits(x, 0, 0, 0, 1);
        e.hear(x, 0, 1, 2, -4);
        fits(x, 0, 0, 0, 0);
        e.hear(x, 1, 0);
        fits(x, 0, 0, 0, 0);
        // Tune 2 is bell 0 twice: its owner would have rung and refused.
        e.hear(x, 0, -4);
        fits(x, 1, 1, 0, 0);
        e.hear(x, -4, 0);
        fits(x, 0, 0, 0, 0);
        e.hear(x, -4, -4);
        fits(x, 1, 1, 1, 0);
        e.hear(x, -4, -4, -4);
        fits(x, 0, 0, 0, 1);
        e.hear(x, -4, 2);
        fits(x, 0, 1, 0, 0);
        // It goes by owners of now, and half of a bell is nothing.
        x.half(1, 0);
        e.hear(x, 0, -4);
        fits(x, 1, 1, 0, 0);
        x.sell(1, 0);
        fits(x, 0, 1, 0, 0);
        ChimeShares twelve = Check.told("bell 0 0 0;bell 1 0 0;tune 0 0 0 0 0 0 0 0 0 0 0 0 1;tune 0 0 0 0 0 0 0 0 0 0 0 1;");
        e.hear(twelve, 0, 0, 0, 0, 0, 0, 0, 0, 0, 0, 0, -4);
        fits(twelve, 1, 0);
        e.hear(twelve, 0, 0, 0, 0, 0, 0, 0, 0, 0, 0, -4, -4);
        fits(twelve, 0, 0);
        e.hear(twelve, -4, -4, -4, -4, -4, -4, -4, -4, -4, -4, -4, 1);
        fits(twelve, 1, 0);
        e.hear(twelve, 0, 0, 0, 0, 0, 0, 0, 0, 0, 0, 0, 0);
        fits(twelve, 0, 0);
    }

    private void fits(ChimeShares x, int... due) {
        int many = 0;
        for (int t = 0; t < due.length; t++) {
            e.due("fits(" + t + ")", x.fits(t), due[t]);
            many += due[t];
        }
        e.due("which(0)", x.which(0), many);
    }

    private void fits() {
        e.sentence(32, "Whether HEARD FITS a TUNE (1, 0). BAD; STATE: nothing was HEARD.");
        ChimeShares x = town();
        e.due("fits(0)", x.fits(0), -2);
        e.due("fits(3)", x.fits(3), -2);
        e.due("fits(4): BAD ahead of STATE", x.fits(4), -1);
        x.hear(-4);
        e.due("fits(0) of a gap", x.fits(0), 0);
        e.due("fits(4)", x.fits(4), -1);
        e.due("fits(-4)", x.fits(-4), -1);
        for (int never : Edges.NEVER) {
            e.due("fits(" + never + ")", x.fits(never), -1);
        }
        e.due("fits(0) of no tunes", new ChimeShares().fits(0), -1);
    }

    private void which() {
        e.sentence(33, "How many TUNES HEARD FITS (what 0), the first one (1), HOUSES that REFUSED by the first one (2; bits), by each one (3; bits).");
        ChimeShares x = town();
        e.hear(x, 0, -4);
        which(x, 2, 0, 2, 0);
        e.hear(x, -4, -4);
        which(x, 3, 0, 3, 1);
        e.hear(x, -4, 2);
        which(x, 1, 1, 1, 1);
        e.hear(x, 0, 0);
        which(x, 1, 2, 0, 0);
        e.hear(x, -4, -4, -4);
        which(x, 1, 3, 7, 7);
        ChimeShares six = Check.told("houses 6;bell 5 0 0;bell 4 0 0;bell 3 0 0;tune 0 2 0;tune 0 2 0;tune 0 1 0;tune 0 2 0;tune 0 2 1;tune 0 2 0;");
        e.hear(six, 2, -4);
        which(six, 5, 0, 32, 0);
        e.hear(six, -4, 0);
        which(six, 5, 0, 8, 0);
        e.hear(six, 1, -4);
        which(six, 1, 2, 32, 32);
        e.hear(six, 2, 1);
        which(six, 1, 4, 0, 0);
    }

    private void which(ChimeShares x, int... due) {
        for (int what = 0; what < 4; what++) {
            e.due("which(" + what + ")", x.which(what), due[what]);
        }
    }

    private void whichOfNone() {
        e.sentence(33, "BAD; STATE likewise; NONE (1 to 3): none.");
        ChimeShares x = town();
        which(x, -2, -2, -2, -2);
        e.due("which(4): BAD ahead of STATE", x.which(4), -1);
        e.hear(x, 1);
        which(x, 0, -4, -4, -4);
        e.due("which(4): BAD ahead of NONE", x.which(4), -1);
        for (int never : Edges.NEVER) {
            e.due("which(" + never + ")", x.which(never), -1);
        }
        ChimeShares none = new ChimeShares();
        which(none, -2, -2, -2, -2);
        none.hear(-4);
        which(none, 0, -4, -4, -4);
    }

    private void keep() {
        e.sentence(34, "IMAGE k (0, 1) is all of BELLS, FEUDS, what was HEARD: whether there was one (1, 0). BAD.");
        ChimeShares x = Check.told("houses 4;bell 0 5 1;bell 1 4 2 half 2;bell 2 3 3 shut;tune 30 0 1;tune 30 0 2;feud 0 2;");
        e.hear(x, 0, -4);
        e.due("keep(2)", x.keep(2), -1);
        e.due("keep(-4)", x.keep(-4), -1);
        for (int never : Edges.NEVER) {
            e.due("keep(" + never + ")", x.keep(never), -1);
        }
        e.due("count(4)", x.count(4), 0);
        e.due("keep(1)", x.keep(1), 0);
        e.due("count(4)", x.count(4), 1);
        e.due("keep(1)", x.keep(1), 1);
        x.fee(0, 9);
        x.shut(2, false);
        x.sell(1, 3);
        x.half(0, 3);
        x.feud(0, 2, false);
        x.feud(1, 3, true);
        e.hear(x, 0, 2);
        e.due("keep(0)", x.keep(0), 0);
        e.due("count(4)", x.count(4), 2);
        x.back(1);
        kept(x, new int[][] {{0, 5, 1, 0, -4}, {1, 4, 2, 0, 2}, {2, 3, 3, 1, -4}}, new int[] {4, 0, 1, 0}, 2, 1, 1);
        x.back(0);
        kept(x, new int[][] {{0, 9, 1, 0, 3}, {3, 4, 2, 0, 2}, {2, 3, 3, 0, -4}}, new int[] {0, 8, 0, 2}, 2, 0, 1);
        x.hush();
        e.due("keep(0): in place of what it was", x.keep(0), 1);
        x.back(1);
        e.due("count(3)", x.count(3), 2);
        x.back(0);
        e.due("count(3)", x.count(3), 0);
        e.due("keep(0) of no bells", new ChimeShares().keep(0), 0);
    }

    private void kept(ChimeShares x, int[][] bells, int[] feuds, int heard, int... fits) {
        for (int b = 0; b < bells.length; b++) {
            e.bell(x, b, bells[b]);
        }
        for (int h = 0; h < feuds.length; h++) {
            e.due("feuds(" + h + ")", x.feuds(h), feuds[h]);
        }
        e.due("count(3)", x.count(3), heard);
        fits(x, fits);
    }

    private void back() {
        e.sentence(35, "All is as IMAGE k: the TUNE that THE TOWN TAKES then (NONE). BAD; STATE: there is none.");
        ChimeShares x = Check.told("bell 0 5 0;bell 1 9 0;tune 9 0;tune 9 1;");
        e.due("back(0)", x.back(0), -2);
        e.due("back(1)", x.back(1), -2);
        e.due("back(2)", x.back(2), -1);
        e.due("back(-4)", x.back(-4), -1);
        for (int never : Edges.NEVER) {
            e.due("back(" + never + ")", x.back(never), -1);
        }
        x.keep(0);
        e.due("back(1): there is none still", x.back(1), -2);
        x.fee(0, 9);
        x.keep(1);
        x.fee(1, 1);
        e.due("taken()", x.taken(), 1);
        e.due("back(1): none is taken then", x.back(1), -4);
        e.due("bell(1, 1)", x.bell(1, 1), 9);
        e.due("back(0)", x.back(0), 0);
        e.due("bell(0, 1)", x.bell(0, 1), 5);
        e.due("back(0): it is there still", x.back(0), 0);
        e.due("count(4)", x.count(4), 2);
        x.fee(0, 7);
        e.due("back(0): what changes behind it changes no image", x.back(0), 0);
        e.due("bell(0, 1)", x.bell(0, 1), 5);
        Check.tell(x, "");
        e.due("back(0): gone by a text", x.back(0), -2);
        ChimeShares none = new ChimeShares();
        none.keep(1);
        e.due("back(1) of no bells", none.back(1), -4);
    }
}
