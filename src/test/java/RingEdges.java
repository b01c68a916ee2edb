/** Edges of promises 16 to 23: tunes rung, what houses get, what they can ask. */
final class RingEdges {
    private static final String TWELVE = " 0".repeat(12) + ";";
    private final Edges e;

    RingEdges(Edges e) {
        this.e = e;
    }

    void run() {
        silent();
        costAndValue();
        town();
        gets();
        ask();
        best();
        settling();
        rounds();
        ringing();
        taken();
        shares();
        asks();
        settle();
        settled();
    }

    private void silent() {
        e.term("One is SILENT, if its BELL is SHUT, or its OWNER has a FEUD with the OWNER of the BELL that rang last ahead of it.");
        ChimeShares x = Check.told("bell 0 1 0;bell 1 1 0;bell 2 1 0;bell 0 1 0;feud 1 0;"
            + "tune 9 1;tune 9 0 1;tune 9 1 0;tune 9 0 2 1;tune 9 0 1 1 2 1;tune 9 0 3 1 3;");
        int[] bits = {0, 2, 2, 0, 6, 4};
        for (int t = 0; t < 6; t++) {
            e.due("ring(" + t + ", 1)", x.ring(t, 1), bits[t]);
        }
        x.shut(0, true);
        // What is shut has not rung: behind it all stands as if it were not there.
        int[] without = {0, 1, 2, 1, 1, 5};
        for (int t = 0; t < 6; t++) {
            e.due("ring(" + t + ", 1), bell 0 shut", x.ring(t, 1), without[t]);
        }
        x.shut(0, false);
        x.shut(2, true);
        e.due("ring(3, 1): bell 0 rang last, not bell 2", x.ring(3, 1), 6);
        ChimeShares all = Check.told("bell 0 1 0 shut;tune 9" + TWELVE);
        e.due("ring(0, 1): all twelve", all.ring(0, 1), 4095);
        all.shut(0, false);
        e.due("ring(0, 1): none", all.ring(0, 1), 0);
        // The owner counts, not who has half.
        ChimeShares half = Check.told("bell 0 1 0 half 1;bell 2 1 0 half 1;tune 9 0 1;feud 0 1;feud 1 2;");
        e.due("ring(0, 1)", half.ring(0, 1), 0);
    }

    private void costAndValue() {
        e.term("COST: FEES of those that ring, summed. VALUE: WORTH less COST, FLATS of those that ring, and gap for each that is SILENT.");
        ring(Check.told("bell 0 20 9;tune 0" + TWELVE), 240, 0, 108, 1000 - 348);
        ring(Check.told("gap 9;bell 0 20 9 shut;tune 0" + TWELVE), 0, 4095, 0, 1000 - 108);
        ring(Check.told("gap 0;bell 0 20 9 shut;tune 0" + TWELVE), 0, 4095, 0, 1000);
        ring(Check.told("bell 0 0 0;tune 99" + TWELVE), 0, 0, 0, 1099);
        ring(Check.told("gap 5;bell 0 7 2;bell 1 11 3;tune 60 0 1 0;feud 0 1;"), 14, 2, 4, 1000 + 60 - 14 - 4 - 5);
        ring(Check.told("bell 0 1 0;tune 1 0;"), 1, 0, 0, 1000);
    }

    private void ring(ChimeShares x, int... due) {
        for (int what = 0; what < 4; what++) {
            e.due("ring(0, " + what + ")", x.ring(0, what), due[what]);
        }
    }

    private void town() {
        e.term("THE TOWN TAKES the TUNE with the greatest VALUE above 0, of several the first.");
        ChimeShares x = Check.told("bell 0 5 0;tune 5 0;");
        e.due("taken() at value 0", x.taken(), -4);
        x.fee(0, 4);
        e.due("taken() at value 1", x.taken(), 0);
        x.fee(0, 6);
        e.due("taken() at value -1", x.taken(), -4);
        ChimeShares y = Check.told("bell 0 0 0;bell 1 0 0;tune 9 0;tune 9 1;tune 8 0;tune 9 0;tune 1 1;tune 9 1;");
        e.due("taken(): the first of four", y.taken(), 0);
        y.fee(0, 1);
        e.due("taken(): the first of two", y.taken(), 1);
        y.fee(1, 1);
        e.due("taken(): the first of four", y.taken(), 0);
        ChimeShares last = Check.told("bell 0 1 0;tune 1 0;tune 1 0;tune 1 0;tune 1 0;tune 1 0;tune 2 0;");
        e.due("taken(): the last of six", last.taken(), 5);
        e.due("taken() of no tunes", new ChimeShares().taken(), -4);
    }

    private void gets() {
        e.term("What a HOUSE GETS is told in halves of FEES: of a stroke that rings its OWNER gets twice the FEE, or, if another HOUSE "
            + "has HALF of the BELL, each of both gets the FEE once.");
        ChimeShares x = Check.told("bell 0 20 0;bell 1 7 0 half 0;bell 2 9 0 half 1 shut;tune 99 0 1 2 1;tune 99" + TWELVE);
        int[] due = {54, 14, 0};
        for (int h = 0; h < 3; h++) {
            e.due("gets(" + h + ", 0)", x.gets(h, 0), due[h]);
        }
        e.due("gets(0, 1)", x.gets(0, 1), 480);
        x.half(0, 2);
        e.due("gets(0, 1), half of it another's", x.gets(0, 1), 240);
        e.due("gets(2, 1), who has half", x.gets(2, 1), 240);
        e.due("gets(1, 1), who has nothing of it", x.gets(1, 1), 0);
        x.fee(0, 0);
        e.due("gets(0, 1) of fee 0", x.gets(0, 1), 0);
        x.shut(2, false);
        e.due("gets(1, 0)", x.gets(1, 0), 23);
        e.due("gets(2, 0)", x.gets(2, 0), 9);
    }

    private void ask() {
        e.term("ASK of a HOUSE: a FEE (0 to 20) that all BELLS it is OWNER of would have, all others as they are; what it GETS then of "
            + "the TUNE that THE TOWN TAKES.");
        ChimeShares x = Check.told("bell 0 20 0;bell 0 0 0 half 1;bell 1 6 0 half 0;tune 27 0 1 2;");
        e.due("ask(0, 0): its half of another's", x.ask(0, 0), 6);
        e.due("ask(0, 10): value 1", x.ask(0, 10), 36);
        e.due("ask(0, 11): value below 0, none taken", x.ask(0, 11), 0);
        e.due("ask(0, 20)", x.ask(0, 20), 0);
        e.due("ask(1, 6)", x.ask(1, 6), 6);
        e.due("ask(1, 7): value 0, none taken", x.ask(1, 7), 0);
        e.due("ask(2, 20): it has no bells", x.ask(2, 20), 0);
        e.bell(x, 0, 0, 20, 0, 0, -4);
        e.bell(x, 1, 0, 0, 0, 0, 1);
        // Another tune is taken by what is asked: of two at the same value the first.
        ChimeShares y = Check.told("bell 0 1 0;bell 1 5 0;tune 15 0;tune 15 1;");
        e.due("ask(0, 5)", y.ask(0, 5), 10);
        e.due("ask(0, 6)", y.ask(0, 6), 0);
        e.due("ask(1, 1)", y.ask(1, 1), 0);
        e.due("ask(1, 0)", y.ask(1, 0), 0);
        y.fee(0, 5);
        e.due("ask(1, 5)", y.ask(1, 5), 0);
        e.due("ask(1, 4)", y.ask(1, 4), 8);
        // All strokes that ring bring: three of its own, one by halves, two halves of others'.
        ChimeShares many = Check.told("bell 0 1 0;bell 0 1 0 half 1;bell 1 5 0 half 0;bell 2 7 0 half 0;bell 0 1 0 shut;tune 99 0 0 1 2 3 4;");
        e.due("ask(0, 10)", many.ask(0, 10), 20 + 20 + 10 + 5 + 7);
        e.due("ask(0, 20)", many.ask(0, 20), 40 + 40 + 20 + 5 + 7);
        e.due("ask(1, 20)", many.ask(1, 20), 1 + 20);
        e.due("ask(2, 0)", many.ask(2, 0), 0);
    }

    private void best() {
        e.term("BEST ASK: that by which it GETS most, of several the least.");
        best(Check.told("bell 0 3 0;tune 50 0;"), 0, 20, 40);
        best(Check.told("bell 0 3 0;tune 21 0;"), 0, 20, 40);
        best(Check.told("bell 0 3 0;tune 20 0;"), 0, 19, 38);
        best(Check.told("bell 0 3 0;tune 1 0;"), 0, 0, 0);
        best(Check.told("bell 0 3 0;tune 0 0;"), 0, 0, 0);
        best(Check.told("bell 0 3 0 shut;tune 50 0;"), 0, 0, 0);
        best(Check.told("bell 0 3 0 half 1;tune 50 0;"), 1, 0, 3);
        best(new ChimeShares(), 0, 0, 0);
        // Two strokes at 4 bring as much as one at 8: the lesser fee.
        best(Check.told("bell 0 3 0;tune 13 0 0;tune 9 0;"), 0, 4, 16);
        best(Check.told("bell 0 3 0;tune 9 0;tune 13 0 0;"), 0, 8, 16);
    }

    private void best(ChimeShares x, int h, int fee, int gets) {
        e.due("best(" + h + ", 0)", x.best(h, 0), fee);
        e.due("best(" + h + ", 1)", x.best(h, 1), gets);
    }

    private void settling() {
        e.term("SETTLING: ROUND by ROUND HOUSES by numbers: if its BEST ASK brings it more than it GETS now, its BELLS get that FEE.");
        // Best is 4 for both bells, 16 in all: as much as 3 and 5 bring now.
        ChimeShares even = Check.told("bell 0 3 0;bell 0 5 0;tune 9 0 1;");
        e.due("best(0, 0)", even.best(0, 0), 4);
        e.due("best(0, 1)", even.best(0, 1), 16);
        e.due("wage(0)", even.wage(0), 16);
        e.due("settle(1)", even.settle(1), 0);
        e.due("bell(0, 1)", even.bell(0, 1), 3);
        e.due("bell(1, 1)", even.bell(1, 1), 5);
        even.fee(1, 4);
        e.due("wage(0)", even.wage(0), 14);
        e.due("settle(2)", even.settle(2), 1);
        e.due("bell(0, 1)", even.bell(0, 1), 4);
        e.due("bell(1, 1)", even.bell(1, 1), 4);
        // By numbers: house 0 takes all that is left, then there is nothing for house 1.
        ChimeShares first = Check.told("bell 0 0 0;bell 1 0 0;bell 0 9 0 shut;tune 15 0 1;");
        e.due("settle(1)", first.settle(1), -4);
        e.due("bell(0, 1)", first.bell(0, 1), 14);
        e.due("bell(1, 1)", first.bell(1, 1), 0);
        e.due("bell(2, 1): all its bells, shut ones too", first.bell(2, 1), 14);
        // A full town: all twelve bells of a house get the fee, and no other ones.
        ChimeShares full = Check.told("bell 1 3 0;bell 0 2 0;".repeat(6) + "tune 25 1 3 5 7 9 11;");
        e.due("settle(2) of twelve bells", full.settle(2), 1);
        for (int b = 0; b < 12; b++) {
            e.due("bell(" + b + ", 1)", full.bell(b, 1), b % 2 == 0 ? 3 : 4);
        }
        ChimeShares second = Check.told("bell 1 0 0;bell 0 0 0;tune 15 0 1;");
        e.due("settle(2)", second.settle(2), 1);
        e.due("bell(0, 1)", second.bell(0, 1), 0);
        e.due("bell(1, 1)", second.bell(1, 1), 14);
    }

    private void rounds() {
        e.term("SETTLED: a ROUND in which none does.");
        ChimeShares x = Check.told("bell 0 3 0;tune 9 0;");
        e.due("settled()", x.settled(), 0);
        e.due("settle(1): the round changed something", x.settle(1), -4);
        e.due("bell(0, 1)", x.bell(0, 1), 8);
        e.due("settled()", x.settled(), 1);
        e.due("settle(1): a round in which none does", x.settle(1), 0);
        // One house of six is enough, the last one too.
        for (int h = 0; h < 6; h++) {
            ChimeShares one = Check.told("houses 6;bell " + h + " 3 0;tune 9 0;");
            e.due("settled(), house " + h + " can have more", one.settled(), 0);
            e.due("settle(2)", one.settle(2), 1);
            e.due("settled()", one.settled(), 1);
        }
    }

    private void ringing() {
        e.sentence(16, "Of a TUNE rung now: 0 COST, 1 SILENT STROKES (bits), 2 FLATS, summed, 3 VALUE and 1000. BAD.");
        ChimeShares x = Check.told("gap 5;bell 0 7 2;bell 1 11 3;tune 60 0 1 0;feud 0 1;");
        ring(x, 14, 2, 4, 1037);
        e.due("ring(0, 4)", x.ring(0, 4), -1);
        e.due("ring(1, 0)", x.ring(1, 0), -1);
        for (int never : Edges.NEVER) {
            e.due("ring(" + never + ", 0)", x.ring(never, 0), -1);
            e.due("ring(0, " + never + ")", x.ring(0, never), -1);
        }
        x.feud(0, 1, false);
        ring(x, 25, 0, 7, 1028);
        e.due("ring(0, 0) of no tunes", new ChimeShares().ring(0, 0), -1);
    }

    private void taken() {
        e.sentence(17, "The TUNE that THE TOWN TAKES. NONE.");
        ChimeShares x = Check.told("bell 0 2 0;tune 2 0;tune 3 0;");
        e.due("taken()", x.taken(), 1);
        x.fee(0, 3);
        e.due("taken(): no value above 0", x.taken(), -4);
        e.due("taken(): there are no tunes", new ChimeShares().taken(), -4);
    }

    private void shares() {
        ChimeShares x = Check.told("houses 4;bell 0 2 0;bell 1 4 0 half 3;tune 9 0;tune 2 1 0;");
        e.sentence(18, "What a HOUSE GETS of a TUNE. BAD.");
        int[][] due = {{4, 0, 0, 0}, {4, 4, 0, 4}};
        for (int t = 0; t < 2; t++) {
            for (int h = 0; h < 4; h++) {
                e.due("gets(" + h + ", " + t + "), taken or not", x.gets(h, t), due[t][h]);
            }
        }
        e.due("gets(4, 0)", x.gets(4, 0), -1);
        e.due("gets(0, 2)", x.gets(0, 2), -1);
        e.sentence(19, "What it GETS of the TUNE that THE TOWN TAKES (0, if it takes none). BAD.");
        e.due("wage(0)", x.wage(0), 4);
        e.due("wage(3)", x.wage(3), 0);
        e.due("wage(4)", x.wage(4), -1);
        for (int never : Edges.NEVER) {
            e.due("gets(" + never + ", 0)", x.gets(never, 0), -1);
            e.due("gets(0, " + never + ")", x.gets(0, never), -1);
            e.due("wage(" + never + ")", x.wage(never), -1);
        }
        x.fee(0, 9);
        e.due("taken()", x.taken(), -4);
        e.due("wage(0): it takes none", x.wage(0), 0);
        e.due("wage(4): it takes none", x.wage(4), -1);
        e.due("gets(0, 0) of what is not taken", x.gets(0, 0), 18);
    }

    private void asks() {
        ChimeShares x = Check.told("bell 0 3 0;tune 30 0;");
        e.sentence(20, "ASK of a FEE: what it GETS. BAD.");
        e.due("ask(0, 0)", x.ask(0, 0), 0);
        e.due("ask(0, 20)", x.ask(0, 20), 40);
        e.due("ask(0, 21)", x.ask(0, 21), -1);
        e.due("ask(0, -4)", x.ask(0, -4), -1);
        e.due("ask(3, 0)", x.ask(3, 0), -1);
        e.sentence(21, "BEST ASK: the FEE (what 0), what it GETS (1). BAD.");
        e.due("best(0, 0)", x.best(0, 0), 20);
        e.due("best(0, 1)", x.best(0, 1), 40);
        e.due("best(0, 2)", x.best(0, 2), -1);
        e.due("best(3, 0)", x.best(3, 0), -1);
        for (int never : Edges.NEVER) {
            e.due("ask(" + never + ", 0)", x.ask(never, 0), -1);
            e.due("ask(0, " + never + ")", x.ask(0, never), -1);
            e.due("best(" + never + ", 0)", x.best(never, 0), -1);
            e.due("best(0, " + never + ")", x.best(0, never), -1);
        }
        e.due("bell(0, 1): asking changes nothing", x.bell(0, 1), 3);
    }

    /** Two houses that undercut one another for a tune each. */
    private static ChimeShares undercutting() {
        return Check.told("houses 2;bell 0 20 0;bell 1 20 0;tune 99 0;tune 99 1;");
    }

    private void settle() {
        e.sentence(22, "SETTLING for n ROUNDS (1 to 30) at most, till it is SETTLED: ROUNDS that changed something.");
        ChimeShares x = undercutting();
        // House 0 is taken at 20 and stays, house 1 asks 19; from then on each goes below the other:
        // round r leaves fees 21 - r and 20 - r, till in round 20 house 1 would get no more by 0.
        e.due("settle(30)", x.settle(30), 20);
        e.due("bell(0, 1)", x.bell(0, 1), 1);
        e.due("bell(1, 1)", x.bell(1, 1), 1);
        e.due("settle(30) again", x.settle(30), 0);
        e.due("settle(1) of no bells", new ChimeShares().settle(1), 0);
        e.due("settle(30) of no bells", new ChimeShares().settle(30), 0);
        e.sentence(22, "BAD; NONE: not SETTLED within n (FEES stay as they are then).");
        ChimeShares y = undercutting();
        for (int n : new int[] {0, -1, -4, 31, Integer.MIN_VALUE, Integer.MAX_VALUE}) {
            e.due("settle(" + n + ")", y.settle(n), -1);
        }
        e.due("bell(1, 1): nothing changed", y.bell(1, 1), 20);
        e.due("settle(1)", y.settle(1), -4);
        e.due("bell(0, 1)", y.bell(0, 1), 20);
        e.due("bell(1, 1)", y.bell(1, 1), 19);
        e.due("settle(3)", y.settle(3), -4);
        e.due("bell(0, 1)", y.bell(0, 1), 17);
        e.due("bell(1, 1)", y.bell(1, 1), 16);
        e.due("settle(16): as many as change something", y.settle(16), -4);
        e.due("bell(0, 1)", y.bell(0, 1), 1);
        e.due("bell(1, 1)", y.bell(1, 1), 1);
        ChimeShares z = undercutting();
        e.due("settle(20)", z.settle(20), -4);
        e.due("settled()", z.settled(), 1);
        e.due("settle(21) of a new one", undercutting().settle(21), 20);
    }

    private void settled() {
        e.sentence(23, "Whether it is SETTLED now (no HOUSE has an ASK that brings it more).");
        e.due("settled() of no bells", new ChimeShares().settled(), 1);
        ChimeShares x = Check.told("bell 0 20 0;tune 21 0;");
        e.due("settled(): there is no greater fee", x.settled(), 1);
        x.fee(0, 19);
        e.due("settled()", x.settled(), 0);
        e.due("bell(0, 1): nothing changed", x.bell(0, 1), 19);
        ChimeShares none = Check.told("bell 0 20 0;tune 1 0;");
        e.due("settled(): at 0 it is taken, but brings nothing", none.settled(), 1);
        none.half(0, 1);
        e.due("settled()", none.settled(), 1);
    }
}
