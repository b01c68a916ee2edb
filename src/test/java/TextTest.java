/** Promises 1 to 9: a new object, the tape, the text and what it told. */
public final class TextTest {
    private static final Check check = new Check("TextTest");

    public static void main(String[] args) {
        newObject();
        tape();
        textTaken();
        textInPlace();
        tokens();
        faults();
        boundsTaken();
        numbersOutOfBounds();
        tooMany();
        notThere();
        refusedTextChangesNothing();
        questions();
        check.close();
    }

    private static void newObject() {
        ChimeShares x = new ChimeShares();
        check.due("rule(0)", x.rule(0), 3);
        check.due("rule(1)", x.rule(1), 3);
        for (int what = 0; what <= 5; what++) {
            check.due("count(" + what + ")", x.count(what), 0);
        }
        check.due("count(6)", x.count(6), -4);
        check.due("fault()", x.fault(), 0);
        check.due("torn()", x.torn(), 0);
        check.due("taken()", x.taken(), -4);
        check.due("settled()", x.settled(), 1);
        check.due("bell(0, 0)", x.bell(0, 0), -1);
        check.due("tune(0, 0)", x.tune(0, 0), -1);
        for (int k = 0; k < 4; k++) {
            check.due("lay(" + k + ", 0, 0)", x.lay(k, 0, 0), -11);
        }
        check.due("back(0)", x.back(0), -2);
        check.due("back(1)", x.back(1), -2);
        check.due("feuds(2)", x.feuds(2), 0);
        check.due("feuds(3)", x.feuds(3), -1);
    }

    private static void tape() {
        ChimeShares x = new ChimeShares();
        for (int i = 1; i <= 40; i++) {
            check.due("feed " + i, x.feed(0x2020202020202020L), 8 * i);
        }
        check.due("feed beyond 320", x.feed(0), -3);
        check.due("count(5)", x.count(5), 320);
        check.due("end(321)", x.end(321), -1);
        check.due("end(-1)", x.end(-1), -1);
        check.due("end(320)", x.end(320), 320);
        check.due("end(313)", x.end(313), 320);
        check.due("feed to 321", x.feed(0), -3);
        check.due("end(312)", x.end(312), 313);
        check.due("feed to 320", x.feed(0x2020202020202020L), 320);
        check.due("text() of blanks", x.text(), 0);
        check.due("count(5)", x.count(5), 0);
        check.due("end(0)", x.end(0), 0);
        check.due("end(1)", x.end(1), -1);
        // Highest byte first: "gap 7;" and two bytes that end() cuts off.
        check.due("feed", x.feed(0x67617020373bffffL), 8);
        check.due("end(6)", x.end(6), 8);
        check.due("text()", x.text(), 1);
        check.due("rule(1)", x.rule(1), 7);
    }

    private static void textTaken() {
        ChimeShares x = new ChimeShares();
        check.due("text()", Check.tell(x,
            "tune 99 11 0;houses 6;bell 5 20 9 shut half 0;bell 0 0 0 half 5 shut;feud 5 0;gap 9;"
            + "bell 1 1 1;bell 1 1 1;bell 1 1 1;bell 1 1 1;bell 1 1 1;bell 1 1 1;bell 1 1 1;bell 1 1 1;bell 1 1 1;"
            + "bell 4 3 2;feud 0 5;"), 17);
        check.due("rule(0)", x.rule(0), 6);
        check.due("rule(1)", x.rule(1), 9);
        int[] first = {5, 20, 9, 1, 0};
        int[] second = {0, 0, 0, 1, 5};
        int[] last = {4, 3, 2, 0, -4};
        for (int what = 0; what < 5; what++) {
            check.due("bell(0, " + what + ")", x.bell(0, what), first[what]);
            check.due("bell(1, " + what + ")", x.bell(1, what), second[what]);
            check.due("bell(11, " + what + ")", x.bell(11, what), last[what]);
        }
        check.due("tune(0, 0)", x.tune(0, 0), 99);
        check.due("tune(0, 1)", x.tune(0, 1), 2);
        check.due("tune(0, 10)", x.tune(0, 10), 11);
        check.due("tune(0, 11)", x.tune(0, 11), 0);
        check.due("feuds(0)", x.feuds(0), 32);
        check.due("feuds(5)", x.feuds(5), 1);
        check.due("count(2), told twice", x.count(2), 1);
        check.due("count(0)", x.count(0), 12);
    }

    private static void textInPlace() {
        ChimeShares x = Check.told("houses 4;gap 1;bell 3 1 1;tune 5 0;feud 1 2;");
        x.hear(0);
        x.keep(0);
        x.keep(1);
        x.sheet(0, 2, 5);
        check.due("text()", Check.tell(x, "bell 2 1 1;"), 1);
        check.due("rule(0) as at first", x.rule(0), 3);
        check.due("rule(1) as at first", x.rule(1), 3);
        check.due("count(0)", x.count(0), 1);
        check.due("count(1)", x.count(1), 0);
        check.due("count(2)", x.count(2), 0);
        check.due("count(3)", x.count(3), 0);
        check.due("count(4)", x.count(4), 0);
        check.due("count(6): sheets stay", x.count(6), 5);
        check.due("back(0)", x.back(0), -2);
        check.due("bell(0, 4)", x.bell(0, 4), -4);
        check.due("text() of a shut bell, half another's", Check.tell(x, "bell 0 0 0 shut half 1;tune 1 0 0 0;"), 2);
        check.due("text() of an open one", Check.tell(x, "bell 0 0 0;tune 1 0;"), 2);
        check.due("bell(0, 3)", x.bell(0, 3), 0);
        check.due("bell(0, 4)", x.bell(0, 4), -4);
        check.due("tune(0, 1)", x.tune(0, 1), 1);
        check.due("text() of nothing", x.text(), 0);
        check.due("count(0)", x.count(0), 0);
    }

    private static void tokens() {
        ChimeShares x = new ChimeShares();
        check.due("no blanks", Check.tell(x, "gap5;bell1 02 3half0shut;"), 2);
        check.due("rule(1)", x.rule(1), 5);
        check.due("bell(0, 1)", x.bell(0, 1), 2);
        check.due("bell(0, 3)", x.bell(0, 3), 1);
        check.due("bell(0, 4)", x.bell(0, 4), 0);
        check.due("many blanks", Check.tell(x, "   gap    00   ;   houses 1;  "), 2);
        check.due("rule(1)", x.rule(1), 0);
        check.due("rule(0)", x.rule(0), 1);
        check.refused("gap 005;", 1, 4);
        check.refused("gap 5;,", 1, 6);
        check.refused("Gap 5;", 1, 0);
        check.refused("gap -5;", 1, 4);
        check.refused("gap\t5;", 1, 3);
        check.refused("gap 5\u0000;", 1, 5);
        check.refused("gap 5\u00e1;", 1, 5);
        check.refused("ga p 5;", 2, 0);
        check.refused("zz 5;", 2, 0);
        check.refused("cap 5;", 2, 0);
        check.refused("gaq 5;", 2, 0);
        check.refused("gap 5 `;", 1, 6);
        check.refused("gap 5 {;", 1, 6);
        check.refused("gap /;", 1, 4);
        check.refused("gap :;", 1, 4);
    }

    private static void faults() {
        check.refused("houses;", 2, 6);
        check.refused("houses", 2, 6);
        check.refused("houses  ", 2, 8);
        check.refused("houses 3 3;", 2, 9);
        check.refused(";", 2, 0);
        check.refused("half 1;", 2, 0);
        check.refused("shut;", 2, 0);
        check.refused("house 3;", 2, 0);
        check.refused("housess 3;", 2, 0);
        check.refused("gap 3;;", 2, 6);
        check.refused("gap 3;7", 2, 6);
        check.refused("bell 0 0 0 0;", 2, 11);
        check.refused("bell 0 0 0 gap 1;", 2, 11);
        check.refused("bell 0 0 0 half shut;", 2, 16);
        check.refused("tune 1 ;", 2, 7);
        check.refused("tune 1 0 half;", 2, 9);
        check.refused("feud 1;", 2, 6);
        check.refused("feud 1 2 0;", 2, 9);
        check.refused("houses 3;gap 2;houses 3;", 4, 15);
        check.refused("gap 3;gap ,", 4, 6);
        check.refused("bell 0 0 0 half 1 half 2;", 4, 18);
        check.refused("bell 0 0 0 half 1 shut half 2;", 4, 23);
        check.refused("bell 0 0 0 shut half 1 shut;", 4, 23);
        check.refused("bell 0 0 0 half 0 ,", 4, 16);
        check.refused("feud 5 5;", 4, 7);
        // The fault that is met first, not the one of the least number.
        check.refused("gap 10,", 3, 4);
        check.refused("feud 6 100;", 3, 5);
        check.refused("bell half 100;", 2, 5);
        check.refused("bell 0 100 99;", 1, 7);
        check.refused("bell 0 0 0 shut ,", 1, 16);
        check.refused("bell 0 0 0 half 1 ,", 1, 18);
        check.refused("tune 100 0;", 1, 5);
        check.refused("tune 1 100;", 1, 7);
        check.refused("tune;", 2, 4);
    }

    private static void boundsTaken() {
        check.due("least", Check.tell(new ChimeShares(), "houses 1;gap 0;bell 0 0 0;tune 0 0;"), 4);
        check.due("greatest", Check.tell(new ChimeShares(),
            "houses 6;gap 9;bell 5 20 9 half 4;tune 99 0 0 0 0 0 0 0 0 0 0 0 0;feud 5 4;"), 5);
    }

    private static void numbersOutOfBounds() {
        check.refused("houses 0;", 3, 7);
        check.refused("houses 7;", 3, 7);
        check.refused("gap 10;", 3, 4);
        check.refused("bell 6 0 0;", 3, 5);
        check.refused("bell 0 21 0;", 3, 7);
        check.refused("bell 0 0 10;", 3, 9);
        check.refused("bell 0 0 0 half 6;", 3, 16);
        check.refused("tune 0 12;", 3, 7);
        check.refused("tune 0 0 12;", 3, 9);
        check.refused("feud 6 0;", 3, 5);
        check.refused("feud 0 6;", 3, 7);
    }

    private static void tooMany() {
        String bells = "bell 0 0 0;".repeat(12);
        check.due("12 bells", Check.tell(new ChimeShares(), bells), 12);
        check.refused(bells + "bell", 5, 132);
        String tunes = "bell 0 0 0;" + "tune 0 0;".repeat(6);
        check.due("6 tunes", Check.tell(new ChimeShares(), tunes), 7);
        check.refused(tunes + "tune", 5, 65);
        String strokes = "bell 0 0 0;tune 0" + " 0".repeat(12);
        check.due("12 strokes", Check.tell(new ChimeShares(), strokes + ";"), 2);
        check.refused(strokes + " 0;", 5, 42);
        check.refused(strokes + " half;", 2, 42);
        check.refused(strokes + " 100;", 1, 42);
        // Unclear in the document: a 13th number that is no stroke is out of its bounds first.
        check.refused(strokes + " 12;", 3, 42);
    }

    private static void notThere() {
        check.refused("bell 3 0 0;", 6, 11);
        check.refused("bell 0 0 0 half 3;", 6, 18);
        check.refused("feud 0 3;  ", 6, 11);
        check.refused("feud 3 0;", 6, 9);
        check.refused("feud 4 5;houses 5;", 6, 18);
        check.refused("tune 1 0;", 6, 9);
        check.refused("bell 0 0 0;tune 1 0 1;", 6, 22);
        check.due("told behind", Check.tell(new ChimeShares(), "tune 1 0;bell 3 0 0;houses 4;"), 3);
    }

    private static void refusedTextChangesNothing() {
        ChimeShares x = Check.told("houses 4;gap 1;bell 3 1 1;tune 5 0;feud 1 2;");
        x.hear(0);
        x.keep(1);
        check.due("text()", Check.tell(x, "houses 2;gap 2;bell 0 0 0;bell 0 0 0;tune 1 5;"), -56);
        check.due("fault()", x.fault(), 6);
        check.due("fault() again", x.fault(), 6);
        check.due("rule(0)", x.rule(0), 4);
        check.due("rule(1)", x.rule(1), 1);
        check.due("bell(0, 0)", x.bell(0, 0), 3);
        check.due("count(0)", x.count(0), 1);
        check.due("tune(0, 0)", x.tune(0, 0), 5);
        check.due("feuds(1)", x.feuds(1), 4);
        check.due("count(3)", x.count(3), 1);
        check.due("count(4)", x.count(4), 1);
        check.due("count(5)", x.count(5), 0);
        check.due("text()", x.text(), 0);
        check.due("fault() of the latest", x.fault(), 0);
    }

    private static void questions() {
        ChimeShares x = Check.told("bell 1 2 3;bell 2 0 0;tune 7 1 0 1;feud 0 2;feud 1 2;");
        int[] wrong = {-1, 2, Integer.MIN_VALUE, Integer.MAX_VALUE};
        for (int what : wrong) {
            check.due("rule(" + what + ")", x.rule(what), -1);
            check.due("bell(" + what + ", 0)", x.bell(what, 0), -1);
            check.due("tune(" + what + ", 0)", x.tune(what, 0), -1);
        }
        check.due("bell(0, 5)", x.bell(0, 5), -1);
        check.due("bell(0, -1)", x.bell(0, -1), -1);
        check.due("tune(1, 0)", x.tune(1, 0), -1);
        check.due("tune(0, -1)", x.tune(0, -1), -1);
        check.due("tune(0, 2)", x.tune(0, 2), -1);
        check.due("tune(0, 9)", x.tune(0, 9), -1);
        check.due("tune(0, 12)", x.tune(0, 12), 1);
        check.due("tune(0, 13)", x.tune(0, 13), -1);
        check.due("tune(0, least)", x.tune(0, Integer.MIN_VALUE), -1);
        check.due("tune(0, greatest)", x.tune(0, Integer.MAX_VALUE), -1);
        check.due("feuds(2)", x.feuds(2), 3);
        check.due("feuds(0)", x.feuds(0), 4);
        check.due("feuds(-1)", x.feuds(-1), -1);
        check.due("feuds(3)", x.feuds(3), -1);
    }
}
