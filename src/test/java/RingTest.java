/** Promises 16 to 23: tunes rung, what houses get, what they can ask. */
public final class RingTest {
    private static final Check check = new Check("RingTest");

    public static void main(String[] args) {
        ringing();
        silence();
        taking();
        getting();
        asking();
        settling();
        undercutting();
        wrongInputs();
        check.close();
    }

    static ChimeShares town() {
        return Check.told("houses 3;gap 2;bell 0 5 1;bell 1 4 0 half 2;bell 2 3 2;bell 0 1 0 shut;"
            + "tune 30 0 1 2;tune 20 2 0 3 1;tune 8 1 1;feud 0 2;");
    }

    private static void ringing() {
        ChimeShares x = town();
        int[][] due = {{12, 0, 3, 1015}, {7, 6, 2, 1007}, {8, 0, 0, 1000}};
        for (int t = 0; t < 3; t++) {
            for (int what = 0; what < 4; what++) {
                check.due("ring(" + t + ", " + what + ")", x.ring(t, what), due[t][what]);
            }
        }
        ChimeShares dear = Check.told("bell 0 20 9;tune 0 0 0 0 0 0 0 0 0 0 0 0 0;");
        check.due("ring(0, 0)", dear.ring(0, 0), 240);
        check.due("ring(0, 2)", dear.ring(0, 2), 108);
        check.due("ring(0, 3)", dear.ring(0, 3), 652);
        dear.shut(0, true);
        check.due("ring(0, 1)", dear.ring(0, 1), 4095);
        check.due("ring(0, 3)", dear.ring(0, 3), 964);
    }

    private static void silence() {
        // Behind a stroke that is silent itself, the last one that rang counts.
        ChimeShares x = Check.told("bell 0 1 0;bell 1 1 0;bell 2 1 0;tune 50 0 1 1 2 1 0;feud 0 1;feud 1 2;");
        check.due("ring(0, 1)", x.ring(0, 1), 22);
        x.shut(0, true);
        check.due("ring(0, 1): a shut bell has not rung", x.ring(0, 1), 41);
        x.sell(1, 0);
        check.due("ring(0, 1): by the owner now", x.ring(0, 1), 33);
    }

    private static void taking() {
        ChimeShares x = Check.told("bell 0 5 0;tune 5 0;tune 6 0;tune 7 0;tune 7 0;");
        check.due("taken(): the first of several", x.taken(), 2);
        x.fee(0, 7);
        check.due("taken(): above 0", x.taken(), -4);
        check.due("wage(0): none taken", x.wage(0), 0);
        x.fee(0, 6);
        check.due("taken()", x.taken(), 2);
    }

    private static void getting() {
        ChimeShares x = town();
        int[][] due = {{10, 4, 10}, {0, 4, 10}, {0, 8, 8}};
        for (int t = 0; t < 3; t++) {
            for (int h = 0; h < 3; h++) {
                check.due("gets(" + h + ", " + t + ")", x.gets(h, t), due[t][h]);
            }
        }
        for (int h = 0; h < 3; h++) {
            check.due("wage(" + h + ")", x.wage(h), due[0][h]);
        }
        x.half(1, -4);
        check.due("gets(1, 0) of a whole bell", x.gets(1, 0), 8);
        check.due("gets(2, 0)", x.gets(2, 0), 6);
    }

    private static void asking() {
        ChimeShares x = town();
        check.due("ask(0, 13): a tie goes to the first", x.ask(0, 13), 26);
        check.due("ask(0, 14)", x.ask(0, 14), 0);
        check.due("ask(0, 0)", x.ask(0, 0), 0);
        check.due("ask(1, 18)", x.ask(1, 18), 18);
        check.due("ask(1, 19)", x.ask(1, 19), 0);
        check.due("ask(2, 17)", x.ask(2, 17), 38);
        check.due("ask(2, 18)", x.ask(2, 18), 0);
        check.due("ask(2, 0): its half of another's", x.ask(2, 0), 4);
        int[][] best = {{13, 26}, {18, 18}, {17, 38}};
        for (int h = 0; h < 3; h++) {
            check.due("best(" + h + ", 0)", x.best(h, 0), best[h][0]);
            check.due("best(" + h + ", 1)", x.best(h, 1), best[h][1]);
        }
        check.due("bell(0, 1): nothing changed", x.bell(0, 1), 5);
        check.due("bell(3, 1): nothing changed", x.bell(3, 1), 1);
        // A house without bells asks for nothing, but gets its halves by any ask: the least one.
        ChimeShares y = Check.told("bell 0 3 0 half 1;tune 50 0;");
        check.due("best(1, 0)", y.best(1, 0), 0);
        check.due("best(1, 1)", y.best(1, 1), 3);
        check.due("best(0, 0)", y.best(0, 0), 20);
        check.due("best(1, 0) behind it", y.best(1, 0), 0);
        check.due("best(0, 1)", y.best(0, 1), 20);
    }

    private static void settling() {
        ChimeShares x = town();
        check.due("settled()", x.settled(), 0);
        check.due("settle(1): a round that changes is none in which it is settled", x.settle(1), -4);
        int[] fees = {13, 10, 3, 13};
        for (int b = 0; b < 4; b++) {
            check.due("bell(" + b + ", 1)", x.bell(b, 1), fees[b]);
        }
        check.due("settled()", x.settled(), 1);
        check.due("settle(1)", x.settle(1), 0);
        for (int h = 0; h < 6; h++) {
            ChimeShares one = Check.told("houses 6;bell " + h + " 1 0;tune 9 0;");
            check.due("settled(): house " + h + " asks for more", one.settled(), 0);
            check.due("settle(2)", one.settle(2), 1);
            check.due("bell(0, 1)", one.bell(0, 1), 8);
            check.due("settled()", one.settled(), 1);
        }
        ChimeShares y = town();
        check.due("settle(2)", y.settle(2), 1);
        check.due("settle(30)", y.settle(30), 0);
        for (int b = 0; b < 4; b++) {
            check.due("bell(" + b + ", 1)", y.bell(b, 1), fees[b]);
        }
    }

    private static void undercutting() {
        // Two houses that undercut one another for a tune each.
        ChimeShares x = Check.told("houses 2;bell 0 5 0;bell 1 5 0;tune 20 0;tune 20 1;");
        check.due("settle(1)", x.settle(1), -4);
        check.due("bell(0, 1)", x.bell(0, 1), 5);
        check.due("bell(1, 1)", x.bell(1, 1), 4);
        check.due("settle(1)", x.settle(1), -4);
        check.due("bell(0, 1)", x.bell(0, 1), 4);
        check.due("bell(1, 1)", x.bell(1, 1), 3);
        check.due("settle(30)", x.settle(30), 3);
        check.due("bell(0, 1)", x.bell(0, 1), 1);
        check.due("bell(1, 1): an ask of 0 brings no more", x.bell(1, 1), 1);
    }

    private static void wrongInputs() {
        ChimeShares x = town();
        for (int w : new int[] {-1, 3, -4, Integer.MIN_VALUE, Integer.MAX_VALUE}) {
            check.due("ring(" + w + ", 0)", x.ring(w, 0), -1);
            check.due("gets(" + w + ", 0)", x.gets(w, 0), -1);
            check.due("gets(0, " + w + ")", x.gets(0, w), -1);
            check.due("wage(" + w + ")", x.wage(w), -1);
            check.due("ask(" + w + ", 0)", x.ask(w, 0), -1);
            check.due("best(" + w + ", 0)", x.best(w, 0), -1);
        }
        check.due("ring(0, 4)", x.ring(0, 4), -1);
        check.due("ring(0, -1)", x.ring(0, -1), -1);
        check.due("ask(0, -1)", x.ask(0, -1), -1);
        check.due("ask(0, 21)", x.ask(0, 21), -1);
        check.due("ask(0, 20)", x.ask(0, 20), 0);
        check.due("best(0, 2)", x.best(0, 2), -1);
        check.due("best(0, -1)", x.best(0, -1), -1);
        check.due("settle(0)", x.settle(0), -1);
        check.due("settle(31)", x.settle(31), -1);
        check.due("bell(0, 1)", x.bell(0, 1), 5);
    }
}
