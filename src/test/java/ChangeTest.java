/** Promises 10 to 15: what is changed. */
public final class ChangeTest {
    private static final Check check = new Check("ChangeTest");

    public static void main(String[] args) {
        fees();
        shutting();
        selling();
        halves();
        feuds();
        feudsBySeed();
        check.close();
    }

    private static ChimeShares town() {
        return Check.told("houses 4;bell 0 5 1;bell 1 4 0 half 2;bell 2 3 2 shut;tune 30 0 1 2;feud 0 2;");
    }

    private static void fees() {
        ChimeShares x = town();
        check.due("fee(0, 20)", x.fee(0, 20), 5);
        check.due("fee(0, 0)", x.fee(0, 0), 20);
        check.due("fee(0, 21)", x.fee(0, 21), -1);
        check.due("fee(0, -1)", x.fee(0, -1), -1);
        check.due("fee(3, 1)", x.fee(3, 1), -1);
        check.due("fee(-1, 1)", x.fee(-1, 1), -1);
        check.due("bell(0, 1)", x.bell(0, 1), 0);
        check.due("bell(1, 1)", x.bell(1, 1), 4);
    }

    private static void shutting() {
        ChimeShares x = town();
        check.due("shut(0, true)", x.shut(0, true), 0);
        check.due("shut(0, true)", x.shut(0, true), 1);
        check.due("bell(0, 3)", x.bell(0, 3), 1);
        check.due("shut(0, false)", x.shut(0, false), 1);
        check.due("shut(0, false)", x.shut(0, false), 0);
        check.due("bell(0, 3)", x.bell(0, 3), 0);
        check.due("bell(2, 3)", x.bell(2, 3), 1);
        check.due("shut(3, true)", x.shut(3, true), -1);
        check.due("shut(-1, true)", x.shut(-1, true), -1);
    }

    private static void selling() {
        ChimeShares x = town();
        check.due("sell(1, 1)", x.sell(1, 1), -2);
        check.due("sell(1, 4)", x.sell(1, 4), -1);
        check.due("sell(1, -4)", x.sell(1, -4), -1);
        check.due("sell(3, 1)", x.sell(3, 1), -1);
        check.due("sell(-1, 1)", x.sell(-1, 1), -1);
        check.due("sell(1, 3)", x.sell(1, 3), 1);
        check.due("bell(1, 0)", x.bell(1, 0), 3);
        check.due("bell(1, 4): the half stays", x.bell(1, 4), 2);
        check.due("sell(1, 2)", x.sell(1, 2), 3);
        check.due("bell(1, 0)", x.bell(1, 0), 2);
        check.due("bell(1, 4): nobody has it", x.bell(1, 4), -4);
    }

    private static void halves() {
        ChimeShares x = town();
        check.due("half(1, 1)", x.half(1, 1), -2);
        check.due("half(1, 2)", x.half(1, 2), 2);
        check.due("half(1, 3)", x.half(1, 3), 2);
        check.due("half(1, -4)", x.half(1, -4), 3);
        check.due("half(1, -4)", x.half(1, -4), -4);
        check.due("half(1, 0)", x.half(1, 0), -4);
        check.due("bell(1, 4)", x.bell(1, 4), 0);
        check.due("half(1, 4)", x.half(1, 4), -1);
        check.due("half(1, -1)", x.half(1, -1), -1);
        check.due("half(3, -4)", x.half(3, -4), -1);
        check.due("half(-4, -4)", x.half(-4, -4), -1);
        check.due("bell(1, 4)", x.bell(1, 4), 0);
    }

    private static void feuds() {
        ChimeShares x = town();
        check.due("feud(2, 0, true)", x.feud(2, 0, true), 1);
        check.due("feud(3, 1, true)", x.feud(3, 1, true), 0);
        check.due("feud(1, 3, true)", x.feud(1, 3, true), 1);
        check.due("count(2)", x.count(2), 2);
        check.due("feuds(1)", x.feuds(1), 8);
        check.due("feuds(3)", x.feuds(3), 2);
        check.due("feud(0, 2, false)", x.feud(0, 2, false), 1);
        check.due("feud(0, 2, false)", x.feud(0, 2, false), 0);
        check.due("feuds(2)", x.feuds(2), 0);
        check.due("feud(1, 1, true)", x.feud(1, 1, true), -1);
        check.due("feud(4, 1, true)", x.feud(4, 1, true), -1);
        check.due("feud(1, 4, true)", x.feud(1, 4, true), -1);
        check.due("feud(-1, 1, true)", x.feud(-1, 1, true), -1);
        check.due("feud(1, -1, true)", x.feud(1, -1, true), -1);
        check.due("count(2)", x.count(2), 1);
    }

    private static void feudsBySeed() {
        for (int houses = 1; houses <= 6; houses++) {
            ChimeShares x = Check.told("houses " + houses + ";" + (houses > 1 ? "feud 0 1;" : ""));
            for (int seed : new int[] {0, 1, 5, -1, 12345, Integer.MIN_VALUE, Integer.MAX_VALUE}) {
                int[] foes = new int[6];
                int pairs = 0;
                int s = seed;
                for (int g = 1; g < houses; g++) {
                    for (int l = 0; l < g; l++) {
                        s = s * 1103515245 + 12345;
                        if ((s >> 16 & 0x7fff) % 4 == 0) {
                            foes[g] += 1 << l;
                            foes[l] += 1 << g;
                            pairs++;
                        }
                    }
                }
                check.due("feuding(" + seed + ")", x.feuding(seed), pairs);
                check.due("count(2)", x.count(2), pairs);
                for (int h = 0; h < houses; h++) {
                    check.due("feuds(" + h + ")", x.feuds(h), foes[h]);
                }
            }
        }
    }
}
