/** Edges of promises 10 to 15: what is changed. */
final class ChangeEdges {
    private final Edges e;

    ChangeEdges(Edges e) {
        this.e = e;
    }

    void run() {
        fee();
        shut();
        sell();
        half();
        feud();
        feuding();
        feudingBounds();
    }

    private static ChimeShares town() {
        return Check.told("houses 4;bell 0 5 1;bell 1 4 0 half 2;bell 2 3 2 shut;tune 30 0 1 2;feud 0 2;");
    }

    private void fee() {
        e.sentence(10, "The FEE of a BELL becomes v (0 to 20): what it was. BAD.");
        ChimeShares x = town();
        e.due("fee(0, 20)", x.fee(0, 20), 5);
        e.due("fee(0, 21)", x.fee(0, 21), -1);
        e.due("fee(0, 0)", x.fee(0, 0), 20);
        e.due("fee(0, 0): as it was", x.fee(0, 0), 0);
        e.due("fee(2, 1)", x.fee(2, 1), 3);
        e.due("fee(3, 1): no such bell", x.fee(3, 1), -1);
        for (int never : Edges.NEVER) {
            e.due("fee(" + never + ", 1)", x.fee(never, 1), -1);
            e.due("fee(0, " + never + ")", x.fee(0, never), -1);
        }
        e.due("fee(0, -4)", x.fee(0, -4), -1);
        e.bell(x, 0, 0, 0, 1, 0, -4);
        e.bell(x, 1, 1, 4, 0, 0, 2);
        e.bell(x, 2, 2, 1, 2, 1, -4);
        e.due("fee(0, 0) of no bells", new ChimeShares().fee(0, 0), -1);
    }

    private void shut() {
        e.sentence(11, "A BELL is SHUT, or not: whether it was. BAD.");
        ChimeShares x = town();
        e.due("shut(2, true): as it was", x.shut(2, true), 1);
        e.due("shut(2, false)", x.shut(2, false), 1);
        e.due("bell(2, 3)", x.bell(2, 3), 0);
        e.due("shut(2, false): as it was", x.shut(2, false), 0);
        e.due("shut(2, true)", x.shut(2, true), 0);
        e.due("bell(2, 3)", x.bell(2, 3), 1);
        e.due("bell(0, 3): others are not", x.bell(0, 3), 0);
        e.due("shut(3, true): no such bell", x.shut(3, true), -1);
        for (int never : Edges.NEVER) {
            e.due("shut(" + never + ", true)", x.shut(never, true), -1);
            e.due("shut(" + never + ", false)", x.shut(never, false), -1);
        }
        e.due("shut(0, true) of no bells", new ChimeShares().shut(0, true), -1);
    }

    private void sell() {
        e.sentence(12, "A BELL is sold to a HOUSE: its OWNER before. (If that had HALF of it, nobody has.)");
        ChimeShares x = town();
        e.due("sell(0, 3)", x.sell(0, 3), 0);
        e.bell(x, 0, 3, 5, 1, 0, -4);
        e.due("sell(1, 3): another has half", x.sell(1, 3), 1);
        e.bell(x, 1, 3, 4, 0, 0, 2);
        e.due("sell(1, 2): that has half", x.sell(1, 2), 3);
        e.bell(x, 1, 2, 4, 0, 0, -4);
        e.due("sell(1, 1): back again, whole", x.sell(1, 1), 2);
        e.bell(x, 1, 1, 4, 0, 0, -4);
        e.sentence(12, "BAD; STATE: it is its OWNER.");
        e.due("sell(1, 1)", x.sell(1, 1), -2);
        e.due("sell(1, 4): no such house", x.sell(1, 4), -1);
        e.due("sell(1, -4): nobody", x.sell(1, -4), -1);
        e.due("sell(3, 0): no such bell", x.sell(3, 0), -1);
        for (int never : Edges.NEVER) {
            e.due("sell(" + never + ", 1)", x.sell(never, 1), -1);
            e.due("sell(1, " + never + ")", x.sell(1, never), -1);
        }
        e.bell(x, 1, 1, 4, 0, 0, -4);
    }

    private void half() {
        e.sentence(13, "HALF of a BELL is a HOUSE's (NONE: nobody's): whose it was (NONE).");
        ChimeShares x = town();
        e.due("half(0, -4): as it was", x.half(0, -4), -4);
        e.due("half(0, 3)", x.half(0, 3), -4);
        e.due("half(0, 3): as it was", x.half(0, 3), 3);
        e.due("half(0, 1)", x.half(0, 1), 3);
        e.bell(x, 0, 0, 5, 1, 0, 1);
        e.due("half(0, -4)", x.half(0, -4), 1);
        e.bell(x, 0, 0, 5, 1, 0, -4);
        e.sentence(13, "BAD; STATE: it is its OWNER.");
        e.due("half(0, 0)", x.half(0, 0), -2);
        e.due("half(1, 1)", x.half(1, 1), -2);
        e.due("half(1, 4): no such house", x.half(1, 4), -1);
        e.due("half(3, 0): no such bell", x.half(3, 0), -1);
        e.due("half(3, -4): no such bell", x.half(3, -4), -1);
        for (int never : Edges.NEVER) {
            e.due("half(" + never + ", 0)", x.half(never, 0), -1);
            e.due("half(1, " + never + ")", x.half(1, never), -1);
        }
        e.bell(x, 1, 1, 4, 0, 0, 2);
        e.due("half(0, -4) of no bells", new ChimeShares().half(0, -4), -1);
    }

    private void feud() {
        e.sentence(14, "Two HOUSES have a FEUD, or none: whether they had. BAD (also alike).");
        ChimeShares x = town();
        e.due("feud(2, 0, true): as it was", x.feud(2, 0, true), 1);
        e.due("feud(3, 0, true)", x.feud(3, 0, true), 0);
        e.due("feud(0, 3, false): either way about", x.feud(0, 3, false), 1);
        e.due("feud(0, 3, false): as it was", x.feud(0, 3, false), 0);
        e.due("count(2)", x.count(2), 1);
        for (int h = 0; h < 4; h++) {
            e.due("feud(" + h + ", " + h + ", true)", x.feud(h, h, true), -1);
            e.due("feud(" + h + ", " + h + ", false)", x.feud(h, h, false), -1);
        }
        e.due("feud(0, 4, true): no such house", x.feud(0, 4, true), -1);
        e.due("feud(4, 0, true): no such house", x.feud(4, 0, true), -1);
        e.due("feud(0, -4, true)", x.feud(0, -4, true), -1);
        e.due("feud(-4, 0, true)", x.feud(-4, 0, true), -1);
        for (int never : Edges.NEVER) {
            e.due("feud(" + never + ", 0, true)", x.feud(never, 0, true), -1);
            e.due("feud(0, " + never + ", true)", x.feud(0, never, true), -1);
        }
        int[] bits = {4, 0, 1, 0};
        for (int h = 0; h < 4; h++) {
            e.due("feuds(" + h + ")", x.feuds(h), bits[h]);
        }
    }

    private void feuding() {
        e.sentence(15, "FEUDS by a seed, in place of those there are: pairs by the greater HOUSE, then the lesser one: the seed (an int) "
            + "becomes seed times 1103515245 and 12345; bits 16 to 30 of it modulo 4 are 0: a FEUD: how many.");
        // Worked out with numbers that have no bound, so that the wrap-around of an int is seen.
        java.math.BigInteger many = java.math.BigInteger.TWO.pow(32);
        for (int seed : new int[] {0, 1, 2, -1, -2, 7, 12345, 1 << 30, Integer.MAX_VALUE, Integer.MIN_VALUE, Integer.MIN_VALUE + 1}) {
            ChimeShares x = Check.told("houses 6;feud 0 1;feud 2 3;feud 4 5;feud 5 0;");
            java.math.BigInteger s = java.math.BigInteger.valueOf(seed);
            int[] bits = new int[6];
            int pairs = 0;
            for (int pair = 0, greater = 1, lesser = 0; pair < 15; pair++) {
                s = s.multiply(java.math.BigInteger.valueOf(1103515245)).add(java.math.BigInteger.valueOf(12345)).mod(many);
                long fifteen = s.longValueExact() / 65536 % 32768;
                if (fifteen % 4 == 0) {
                    bits[greater] |= 1 << lesser;
                    bits[lesser] |= 1 << greater;
                    pairs++;
                }
                lesser++;
                if (lesser == greater) {
                    greater++;
                    lesser = 0;
                }
            }
            e.due("feuding(" + seed + ")", x.feuding(seed), pairs);
            e.due("count(2) behind feuding(" + seed + ")", x.count(2), pairs);
            for (int h = 0; h < 6; h++) {
                e.due("feuds(" + h + ") behind feuding(" + seed + ")", x.feuds(h), bits[h]);
            }
        }
    }

    private void feudingBounds() {
        // Seed 0 becomes 12345, 3554416254, 2802067423: bits 16 to 30 are 0, 21468, 9988, feuds all three.
        // Seed 1 becomes 1103527590, 2524885223, 662824084: 16838, 5758, 10113, none of them.
        ChimeShares one = Check.told("houses 1;");
        e.due("feuding(0) of one house", one.feuding(0), 0);
        e.due("feuds(0)", one.feuds(0), 0);
        ChimeShares two = Check.told("houses 2;");
        e.due("feuding(0) of two houses", two.feuding(0), 1);
        e.due("feuds(0)", two.feuds(0), 2);
        e.due("feuding(1) of two houses", two.feuding(1), 0);
        e.due("feuds(0): in place of those there were", two.feuds(0), 0);
        e.due("count(2)", two.count(2), 0);
        ChimeShares three = Check.told("");
        e.due("feuding(0) of three houses", three.feuding(0), 3);
        e.due("feuds(2)", three.feuds(2), 3);
        e.due("feuding(1) of three houses", three.feuding(1), 0);
        e.due("count(2)", three.count(2), 0);
    }
}
