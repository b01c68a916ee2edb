/** Edges of promises 1 to 9, and of the terms they stand on: the tape, its tokens and faults, what a text told. */
final class TextEdges {
    private final Edges e;

    TextEdges(Edges e) {
        this.e = e;
    }

    void run() {
        bounds();
        bells();
        tunes();
        tapeAndTokens();
        grammar();
        noToken();
        outOfPlace();
        endOfText();
        outOfBounds();
        again();
        tooMany();
        firstMet();
        notThere();
        taken();
        nothingLeft();
        newObject();
        feed();
        end();
        text();
        fault();
        questions();
    }

    private void bounds() {
        e.term("HOUSES (1 to 6; 3 at first).");
        e.due("rule(0) at first", new ChimeShares().rule(0), 3);
        e.due("rule(0) not told", e.taken("gap 1;", 1).rule(0), 3);
        e.refused("houses 0;", 3, 7);
        e.refused("houses 00;", 3, 7);
        e.refused("houses 7;", 3, 7);
        for (int n = 1; n <= 6; n++) {
            ChimeShares x = e.taken("houses " + n + ";", 1);
            e.due("rule(0)", x.rule(0), n);
            e.due("feuds of the last of " + n, x.feuds(n - 1), 0);
            e.due("feuds behind the last of " + n, x.feuds(n), -1);
        }
        e.term("RULES: 0 houses, 1 gap (0 to 9; 3).");
        e.due("rule(1) at first", new ChimeShares().rule(1), 3);
        e.due("rule(1) not told", e.taken("houses 1;", 1).rule(1), 3);
        e.due("rule(1) of 0", e.taken("gap 0;", 1).rule(1), 0);
        e.due("rule(1) of 9", e.taken("gap 9;", 1).rule(1), 9);
        e.due("rule(1) of 09", e.taken("gap 09;", 1).rule(1), 9);
        e.refused("gap 10;", 3, 4);
    }

    private void bells() {
        e.term("BELLS (12 at most), by numbers from low to high: OWNER (a HOUSE), FEE (0 to 20), FLAT (0 to 9), SHUT or not, "
            + "another HOUSE that has HALF of it, or none.");
        StringBuilder twelve = new StringBuilder();
        for (int b = 0; b < 12; b++) {
            twelve.append("bell ").append(b % 3).append(' ').append(b + 9).append(' ').append(b % 10).append(';');
        }
        ChimeShares x = e.taken(twelve.toString(), 12);
        e.due("count(0)", x.count(0), 12);
        for (int b = 0; b < 12; b++) {
            e.bell(x, b, b % 3, b + 9, b % 10, 0, -4);
        }
        e.refused(twelve + "bell 0 0 0;", 5, twelve.length());
        ChimeShares y = e.taken("bell 0 0 0;bell 2 20 9;bell 1 0 9 half 0;bell 1 20 0 shut;bell 0 1 1 half 2 shut;", 5);
        e.bell(y, 0, 0, 0, 0, 0, -4);
        e.bell(y, 1, 2, 20, 9, 0, -4);
        e.bell(y, 2, 1, 0, 9, 0, 0);
        e.bell(y, 3, 1, 20, 0, 1, -4);
        e.bell(y, 4, 0, 1, 1, 1, 2);
        e.refused("bell 0 21 0;", 3, 7);
        e.refused("bell 0 0 10;", 3, 9);
    }

    private void tunes() {
        e.term("TUNES (6): WORTH (0 to 99), 1 to 12 STROKES (BELLS).");
        ChimeShares x = e.taken("bell 0 0 0;tune 0 0;tune 99 0 0 0 0 0 0 0 0 0 0 0 0;tune 2 0;tune 3 0;tune 4 0;tune 5 0;", 7);
        e.due("count(1)", x.count(1), 6);
        e.due("tune(0, 0)", x.tune(0, 0), 0);
        e.due("tune(0, 1)", x.tune(0, 1), 1);
        e.due("tune(1, 0)", x.tune(1, 0), 99);
        e.due("tune(1, 1)", x.tune(1, 1), 12);
        e.due("tune(5, 0)", x.tune(5, 0), 5);
        e.refused("bell 0 0 0;tune 9;", 2, 17);
        e.refused("bell 0 0 0;tune 100 0;", 1, 16);
        e.term("FEUDS: pairs of unlike HOUSES.");
        ChimeShares y = e.taken("feud 0 1;feud 1 0;feud 0 1;", 3);
        e.due("count(2): one pair, told three times", y.count(2), 1);
        e.due("feuds(0)", y.feuds(0), 2);
        e.due("feuds(1)", y.feuds(1), 1);
        for (int h = 0; h <= 5; h++) {
            e.refused("houses 6;feud " + h + " " + h + ";", 4, 16);
        }
    }

    private void tapeAndTokens() {
        e.term("THE TAPE has 320 bytes, places from 0.");
        String full = "gap 3" + " ".repeat(313);
        e.taken(full + " ;", 1);
        e.refused("!" + full, 1, 0);
        e.refused(full + ";!", 1, 319);
        e.refused(full + "  ", 2, 320);
        e.term("TOKENS, each as long as may be, blanks (32) between: NAMES (a .. z), NUMBERS (1 or 2 figures), one ; .");
        ChimeShares x = e.taken("gap9;bell1 20 9shut half0;houses6;", 3);
        e.due("rule(1)", x.rule(1), 9);
        e.due("rule(0)", x.rule(0), 6);
        e.bell(x, 0, 1, 20, 9, 1, 0);
        e.due("text of blanks all about", e.taken("  gap  07  ;  houses  01  ;  ", 2).rule(1), 7);
        // As long as may be: never 'half' and 'shut' of one row of letters, nor 1 and 2 of 12.
        e.refused("bell 0 0 0 halfshut;", 2, 11);
        e.refused("bell 0 0 0 shuthalf 1;", 2, 11);
        e.refused("gapgap 3;", 2, 0);
        e.refused("feud 01;", 2, 7);
        e.refused("feud 12;", 3, 5);
        e.refused("bell 000;", 1, 5);
        for (char c : new char[] {'\t', '\n', 0, 31, 33, '/', ':', '<', 'A', 'Z', '[', '`', '{', 127, 128, 160, 255}) {
            e.refused("gap " + c + "3;", 1, 4);
            e.refused(c + "gap 3;", 1, 0);
            e.refused("gap 3;" + c, 1, 6);
        }
        e.refused("az 3;", 2, 0);
        e.refused("z", 2, 0);
        e.refused("a", 2, 0);
    }

    private void grammar() {
        e.term("text: { line } line: houses N ; | gap N ; | bell N N N { with } ; | tune N N { N } ; | feud N N ; "
            + "with: half N | shut");
        e.taken("", 0);
        e.taken(" ", 0);
        e.taken("feud 0 1;tune 1 0;bell 0 0 0 shut;bell 0 0 0 half 1;bell 0 0 0 half 1 shut;bell 0 0 0 shut half 1;gap 1;houses 2;", 8);
        e.refused("houses 3 3;", 2, 9);
        e.refused("gap 3 3;", 2, 6);
        e.refused("bell 0 0 0 0;", 2, 11);
        e.refused("bell 0 0 0 shut 0;", 2, 16);
        e.refused("bell 0 0 0 half 1 0;", 2, 18);
        e.refused("feud 0 1 2;", 2, 9);
        e.refused("tune 1 0 shut;", 2, 9);
        e.refused("gap 3;;", 2, 6);
        e.refused("gap ;", 2, 4);
        e.refused("houses ;", 2, 7);
        e.refused("bell ;", 2, 5);
        e.refused("bell 0;", 2, 6);
        e.refused("bell 0 0;", 2, 8);
        e.refused("bell 0 0 0 half;", 2, 15);
        e.refused("tune ;", 2, 5);
        e.refused("tune 9;", 2, 6);
        e.refused("feud ;", 2, 5);
        e.refused("feud 0;", 2, 6);
        e.term("bell: OWNER (0 to 5), FEE, FLAT. half: a HOUSE (0 to 5). tune: WORTH, STROKES (0 to 11 each). feud: two HOUSES.");
        ChimeShares x = e.taken("houses 6;" + "bell 5 2 1 half 0;bell 0 2 1 half 5;" + "bell 0 0 0;".repeat(10)
            + "tune 7 11 0;feud 5 0;", 15);
        e.bell(x, 0, 5, 2, 1, 0, 0);
        e.bell(x, 1, 0, 2, 1, 0, 5);
        e.due("tune(0, 0)", x.tune(0, 0), 7);
        e.due("tune(0, 10)", x.tune(0, 10), 11);
        e.due("tune(0, 11)", x.tune(0, 11), 0);
        e.due("feuds(5)", x.feuds(5), 1);
        e.refused("houses 6;bell 6 0 0;", 3, 14);
        e.refused("houses 6;bell 0 0 0 half 6;", 3, 25);
        e.refused("houses 6;tune 7 12;", 3, 16);
        e.refused("houses 6;tune 7 0 12;", 3, 18);
        e.refused("houses 6;feud 6 0;", 3, 14);
        e.refused("houses 6;feud 0 6;", 3, 16);
    }

    private void noToken() {
        e.term("1 no TOKEN, a NUMBER that is too long (its first byte).");
        e.refused(",", 1, 0);
        e.refused("  ,", 1, 2);
        e.refused("gap ,", 1, 4);
        e.refused("gap 3,", 1, 5);
        e.refused("gap 3 ,", 1, 6);
        e.refused("gap 3;,", 1, 6);
        e.refused("bell 0 0 0,", 1, 10);
        e.refused("bell 0 0 0 shut,", 1, 15);
        e.refused("bell 0 0 0 half 1,", 1, 17);
        e.refused("bell 0 0 0 half 1 shut,", 1, 22);
        e.refused("tune 1 0,", 1, 8);
        e.refused("feud 0 1,", 1, 8);
        e.refused("houses 3,", 1, 8);
        e.refused("gap 003;", 1, 4);
        e.refused("gap 300;", 1, 4);
        e.refused("gap 4294967299;", 1, 4);
        e.refused("gap " + "0".repeat(300) + "3;", 1, 4);
        e.refused("houses 001;", 1, 7);
        e.refused("bell 000 0 0;", 1, 5);
        e.refused("bell 0 000 0;", 1, 7);
        e.refused("bell 0 0 000;", 1, 9);
        e.refused("bell 0 0 0 half 001;", 1, 16);
        e.refused("tune 001 0;", 1, 5);
        e.refused("tune 1 000;", 1, 7);
        e.refused("tune 1 0 000;", 1, 9);
        e.refused("feud 000 1;", 1, 5);
        e.refused("feud 0 001;", 1, 7);
        // Where a number can not stand, it is too long first.
        e.refused("100", 1, 0);
        e.refused("gap 3 100;", 1, 6);
    }

    private void outOfPlace() {
        e.term("2 a TOKEN that can not stand there (a NAME that begins no line, is no with; or the end: the length).");
        e.refused("shut;", 2, 0);
        e.refused("half 1;", 2, 0);
        e.refused("x;", 2, 0);
        e.refused("mouses 3;", 2, 0);
        e.refused("cap 3;", 2, 0);
        e.refused("cell 0 0 0;", 2, 0);
        e.refused("dune 1 0;", 2, 0);
        e.refused("geud 0 1;", 2, 0);
        e.refused("  hous 3;", 2, 2);
        e.refused("house 3;", 2, 0);
        e.refused("housess 3;", 2, 0);
        e.refused("ga 3;", 2, 0);
        e.refused("gapp 3;", 2, 0);
        e.refused("bel 0 0 0;", 2, 0);
        e.refused("belll 0 0 0;", 2, 0);
        e.refused("tunes 1 0;", 2, 0);
        e.refused("tun 1 0;", 2, 0);
        e.refused("feuds 0 1;", 2, 0);
        e.refused("feu 0 1;", 2, 0);
        e.refused("3;", 2, 0);
        e.refused(";", 2, 0);
        e.refused("gap 3;3", 2, 6);
        e.refused("bell 0 0 0 bell 0 0 0;", 2, 11);
        e.refused("bell 0 0 0 calf 1;", 2, 11);
        e.refused("bell 0 0 0 phut;", 2, 11);
        e.refused("bell 0 0 0 halff 1;", 2, 11);
        e.refused("bell 0 0 0 hal 1;", 2, 11);
        e.refused("bell 0 0 0 shutt;", 2, 11);
        e.refused("bell 0 0 0 shu;", 2, 11);
        e.refused("bell 0 0 0 half 1 gap;", 2, 18);
        e.refused("gap gap;", 2, 4);
        e.refused("gap 3 gap 3;", 2, 6);
    }

    private void endOfText() {
        // Each line that breaks off behind a whole token, with no blank and with two.
        String[] broken = {"houses", "houses 3", "gap", "gap 3", "bell", "bell 0", "bell 0 0", "bell 0 0 0", "bell 0 0 0 half",
            "bell 0 0 0 half 1", "bell 0 0 0 shut", "bell 0 0 0 half 1 shut", "tune", "tune 1", "tune 1 0", "tune 1 0 0",
            "feud", "feud 0", "feud 0 1", "gap 3;tune", "gap 3;feud 0 1"};
        for (String text : broken) {
            e.refused(text, 2, text.length());
            e.refused(text + "  ", 2, text.length() + 2);
        }
    }

    private void outOfBounds() {
        e.term("3 a NUMBER out of its bounds.");
        e.refused("houses 99;", 3, 7);
        e.refused("gap 99;", 3, 4);
        e.refused("bell 99 0 0;", 3, 5);
        e.refused("bell 0 99 0;", 3, 7);
        e.refused("bell 0 0 99;", 3, 9);
        e.refused("bell 0 0 0 half 99;", 3, 16);
        e.refused("bell 0 0 0 shut half 6;", 3, 21);
        e.refused("tune 99 99;", 3, 8);
        e.refused("tune 1 0 0 99;", 3, 11);
        e.refused("feud 99 0;", 3, 5);
        e.refused("feud 0 99;", 3, 7);
    }

    private void again() {
        e.term("4 houses, gap, a with for the second time (its NAME), a half of the OWNER, a feud of a HOUSE and itself (it).");
        e.refused("houses 3;houses 3;", 4, 9);
        e.refused("houses 3;bell 0 0 0; houses", 4, 21);
        e.refused("gap 3;gap 3;", 4, 6);
        e.refused("gap 0;feud 0 1;gap", 4, 15);
        e.refused("bell 0 0 0 shut shut;", 4, 16);
        e.refused("bell 0 0 0 half 1 half 1;", 4, 18);
        e.refused("bell 0 0 0 half 1 half 0;", 4, 18);
        e.refused("bell 0 0 0 half 1 shut half 2;", 4, 23);
        e.refused("bell 0 0 0 shut half 1 shut;", 4, 23);
        e.taken("bell 0 0 0 half 1 shut;bell 0 0 0 half 1 shut;", 2);
        e.refused("bell 0 0 0 half 0;", 4, 16);
        e.refused("bell 2 0 0 shut half 02;", 4, 21);
        e.refused("houses 6;bell 5 0 0 half 5;", 4, 25);
        e.taken("bell 0 0 0 half 1;bell 1 0 0 half 0;", 2);
        e.refused("feud 0 0;", 4, 7);
        e.refused("feud 2 02;", 4, 7);
        e.refused("feud 5 5;", 4, 7);
    }

    private void tooMany() {
        e.term("5 the 13th bell, the 7th tune (its NAME), the 13th STROKE (it).");
        String bells = "bell 0 0 0;".repeat(12);
        e.taken(bells, 12);
        e.refused(bells + "bell 0 0 0;", 5, 132);
        e.refused(bells + " bell", 5, 133);
        e.taken(bells + "gap 1;tune 1 11;", 14);
        String tunes = "bell 0 0 0;" + "tune 1 0;".repeat(6);
        e.taken(tunes, 7);
        e.refused(tunes + "tune 1 0;", 5, 65);
        e.refused(tunes + " tune", 5, 66);
        e.taken(tunes + "bell 0 0 0;", 8);
        String strokes = "bell 0 0 0;tune 1" + " 0".repeat(12);
        e.taken(strokes + ";", 2);
        e.refused(strokes + " 0;", 5, 42);
        e.refused(strokes + " 0 0;", 5, 42);
        e.refused(strokes + " 0", 5, 42);
        e.refused(strokes + " shut;", 2, 42);
        e.refused(strokes + " 000;", 1, 42);
    }

    private void firstMet() {
        e.term("FAULTS, the first met as it is read (a TOKEN is read when the one before has been taken):");
        e.refused("gap 10,", 3, 4);
        e.refused("houses 7 7,", 3, 7);
        e.refused("bell 6 21 10 half 6;", 3, 5);
        e.refused("bell 0 21 100;", 3, 7);
        e.refused("bell 0 0 10!", 3, 9);
        e.refused("feud 6 100;", 3, 5);
        e.refused("feud 1 1!", 4, 7);
        e.refused("gap 3;gap!", 4, 6);
        e.refused("houses 3;houses 100;", 4, 9);
        e.refused("bell 0 0 0 half 0!", 4, 16);
        e.refused("bell 0 0 0 shut shut!", 4, 16);
        e.refused("bell 0 0 0 half 1 half 6!", 4, 18);
        e.refused("bell 0 0 0;".repeat(12) + "bell!", 5, 132);
        e.refused("tune 1" + " 0".repeat(13) + "!", 5, 31);
        e.refused("tune 1 12 100;", 3, 7);
        e.refused("bell bell!", 2, 5);
        e.refused("gap;!", 2, 3);
        e.refused("x!", 2, 0);
        // A fault that is met ahead of the end is told, not the house or bell that there is not.
        e.refused("bell 5 0 0;gap", 2, 14);
        e.refused("tune 1 11;feud 0 0;", 4, 17);
    }

    private void notThere() {
        e.term("Behind all (the length): 6 a HOUSE, a BELL that there is not.");
        e.refused("bell 3 0 0;", 6, 11);
        e.refused("bell 3 0 0;  ", 6, 13);
        e.refused("houses 1;bell 1 0 0;", 6, 20);
        e.refused("bell 1 0 0;houses 1;", 6, 20);
        e.refused("bell 0 0 0 half 3;", 6, 18);
        e.refused("houses 5;bell 0 0 0 half 5;", 6, 27);
        e.refused("feud 2 3;", 6, 9);
        e.refused("feud 3 2;", 6, 9);
        e.refused("houses 1;feud 0 1;", 6, 18);
        e.refused("feud 4 5;houses 5;", 6, 18);
        e.refused("tune 1 0;", 6, 9);
        e.refused("bell 0 0 0;tune 1 1;", 6, 20);
        e.refused("bell 0 0 0;tune 1 0 0 1;", 6, 24);
        e.refused("bell 0 0 0;tune 1 0;tune 1 1;", 6, 29);
        e.refused("bell 0 0 0;".repeat(11) + "tune 1 11;", 6, 131);
        // It is looked at behind all: what is told later is there.
        e.taken("bell 5 0 0 half 4;feud 3 5;tune 1 1;houses 6;bell 0 0 0;", 5);
        e.taken("bell 2 0 0 half 1;feud 2 0;tune 1 0;", 3);
    }

    private void taken() {
        e.term("A text that is taken tells all, in place of what there was; nothing HEARD; IMAGES are gone.");
        ChimeShares x = Check.told("houses 6;gap 9;bell 5 9 9 half 4 shut;bell 3 9 9;tune 50 0 1;tune 60 1;feud 5 4;feud 3 0;");
        x.hear(0);
        x.keep(0);
        x.keep(1);
        e.due("text()", Check.tell(x, "bell 2 1 1;tune 7 0;"), 2);
        e.due("rule(0)", x.rule(0), 3);
        e.due("rule(1)", x.rule(1), 3);
        e.bell(x, 0, 2, 1, 1, 0, -4);
        e.bell(x, 1, -1);
        e.due("tune(0, 0)", x.tune(0, 0), 7);
        e.due("tune(0, 1)", x.tune(0, 1), 1);
        e.due("tune(1, 0)", x.tune(1, 0), -1);
        int[] counts = {1, 1, 0, 0, 0, 0};
        for (int what = 0; what < counts.length; what++) {
            e.due("count(" + what + ")", x.count(what), counts[what]);
        }
        e.due("fits(0)", x.fits(0), -2);
        e.due("back(0)", x.back(0), -2);
        e.due("back(1)", x.back(1), -2);
        e.due("keep(0)", x.keep(0), 0);
        e.due("text() of nothing", x.text(), 0);
        e.due("count(0)", x.count(0), 0);
        e.due("count(1)", x.count(1), 0);
        e.due("count(4)", x.count(4), 0);
    }

    /** Of a greater town that was asked for everything nothing is left in a lesser one, nor of its feuds, shut bells and halves. */
    private void nothingLeft() {
        String great = "houses 6;gap 9;" + "bell 5 2 1 half 0 shut;bell 4 1 0 half 5;bell 3 3 2;bell 0 1 0;".repeat(3)
            + "tune 99 1 2 3 5 6 7;tune 98 9 10 11;tune 97 1 1;tune 96 2;tune 95 3;tune 94 3 2;feud 0 5;feud 1 2;";
        String[] lesser = {"", "houses 1;bell 0 1 1;tune 9 0;", "houses 2;bell 0 1 1;bell 1 2 2;tune 9 0 1;tune 9 1;",
            "bell 0 9 9 shut;bell 1 0 0 half 2;tune 5 1 0 1 0 1 0 1 0;tune 1 1;feud 0 1;"};
        for (String text : lesser) {
            ChimeShares x = Check.told(great);
            e.due("count(1)", x.count(1), 6);
            e.check.isTrue("a great town answers", Seen.town(x).size() > 0);
            x.settle(30);
            x.keep(0);
            Check.tell(x, text);
            e.check.isTrue("'" + text + "' behind a greater town is as in a new object",
                Seen.whole(x).equals(Seen.whole(Check.told(text))));
        }
    }

    private void newObject() {
        e.sentence(1, "As told at first, no BELLS; SHEETS of nothing.");
        ChimeShares x = new ChimeShares();
        e.due("rule(0)", x.rule(0), 3);
        e.due("rule(1)", x.rule(1), 3);
        int[] counts = {0, 0, 0, 0, 0, 0, -4};
        for (int what = 0; what < counts.length; what++) {
            e.due("count(" + what + ")", x.count(what), counts[what]);
        }
        e.due("bell(0, 0)", x.bell(0, 0), -1);
        e.due("tune(0, 0)", x.tune(0, 0), -1);
        e.due("fault()", x.fault(), 0);
        e.due("torn()", x.torn(), 0);
        for (int k = 0; k < 4; k++) {
            e.due("lay(" + k + ", 0, 0)", x.lay(k, 0, 0), -11);
            for (int lane = 0; lane < 3; lane++) {
                e.due("read(" + k + ", " + lane + ", 0, 1)", x.read(k, lane, 0, 1), 0);
                e.due("torn()", x.torn(), 1);
            }
        }
        for (int h = 0; h < 3; h++) {
            e.due("feuds(" + h + ")", x.feuds(h), 0);
            e.due("wage(" + h + ")", x.wage(h), 0);
        }
    }

    private void feed() {
        e.sentence(2, "Eight bytes come behind THE TAPE, the highest first: how many it has.");
        ChimeShares x = new ChimeShares();
        e.due("feed of 'gap 7;!!'", x.feed(0x67617020373b2121L), 8);
        e.due("text()", x.text(), -16);
        e.due("feed below 0", x.feed(Long.MIN_VALUE), 8);
        e.due("text(): its first byte is 128", x.text(), -10);
        e.due("feed of '       !'", x.feed(0x2020202020202021L), 8);
        e.due("text(): its last byte is '!'", x.text(), -17);
        e.due("feed of -1", x.feed(-1), 8);
        e.due("feed of 0", x.feed(0), 16);
        x.end(0);
        e.due("feed of '   gap 7'", x.feed(0x2020206761702037L), 8);
        e.due("feed of ';       '", x.feed(0x3b20202020202020L), 16);
        e.due("text()", x.text(), 1);
        e.due("rule(1)", x.rule(1), 7);
        e.sentence(2, "FULL: more than 320.");
        for (int i = 1; i <= 40; i++) {
            e.due("feed " + i, x.feed(i == 1 ? 0x67617020353b2020L : 0x2020202020202020L), 8 * i);
        }
        e.due("feed 41", x.feed(-1), -3);
        e.due("count(5)", x.count(5), 320);
        for (int n = 319; n >= 313; n--) {
            x.end(n);
            e.due("feed behind " + n, x.feed(-1), -3);
            e.due("count(5)", x.count(5), n);
        }
        x.end(312);
        e.due("feed behind 312", x.feed(0x2020202020202020L), 320);
        e.due("text(): nothing came of what was refused", x.text(), 1);
        e.due("rule(1)", x.rule(1), 5);
    }

    private void end() {
        e.sentence(3, "THE TAPE keeps its first n bytes: how many it had. BAD.");
        ChimeShares x = new ChimeShares();
        e.due("end(0) of nothing", x.end(0), 0);
        e.due("end(1) of nothing", x.end(1), -1);
        x.feed(0x67617020373b2121L);
        for (int n : new int[] {-1, 9, 320, 321, Integer.MIN_VALUE, Integer.MAX_VALUE}) {
            e.due("end(" + n + ") of 8", x.end(n), -1);
            e.due("count(5)", x.count(5), 8);
        }
        e.due("end(8)", x.end(8), 8);
        e.due("end(7)", x.end(7), 8);
        e.due("end(8): it has 7", x.end(8), -1);
        e.due("end(6)", x.end(6), 7);
        e.due("feed behind 6", x.feed(0x2020202020202020L), 14);
        e.due("text()", x.text(), 1);
        e.due("rule(1)", x.rule(1), 7);
        x.feed(-1);
        e.due("end(0)", x.end(0), 8);
        e.due("count(5)", x.count(5), 0);
    }

    private void text() {
        e.sentence(4, "THE TAPE (empty then) tells all: how many lines; -10 less the place of its FAULT: that which was told stays.");
        e.taken("feud0 1;".repeat(40), 40);
        e.refused("," + " ".repeat(319), 1, 0);
        e.refused("gap 3" + " ".repeat(315), 2, 320);
        ChimeShares x = Check.told("houses 4;gap 1;bell 3 1 1;tune 5 0;feud 1 2;");
        x.hear(0);
        x.keep(1);
        e.due("text()", Check.tell(x, "houses 2;gap 2;bell 0 0 0;bell 0 0 0;tune 9 0 0;feud 0 1;tune 1 5;"), -76);
        e.due("count(5)", x.count(5), 0);
        e.due("rule(0)", x.rule(0), 4);
        e.due("rule(1)", x.rule(1), 1);
        e.bell(x, 0, 3, 1, 1, 0, -4);
        e.due("tune(0, 0)", x.tune(0, 0), 5);
        e.due("tune(0, 1)", x.tune(0, 1), 1);
        int[] counts = {1, 1, 1, 1, 1};
        for (int what = 0; what < counts.length; what++) {
            e.due("count(" + what + ")", x.count(what), counts[what]);
        }
        e.due("feuds(1)", x.feuds(1), 4);
        e.due("back(1)", x.back(1), 0);
        e.due("text() of the tape that is empty then", x.text(), 0);
        e.due("count(0)", x.count(0), 0);
    }

    private void fault() {
        e.sentence(5, "The FAULT of the latest text(); 0.");
        ChimeShares x = new ChimeShares();
        e.due("fault() ahead of all", x.fault(), 0);
        String[] texts = {",", ";", "gap 10;", "feud 0 0;", "bell 0 0 0;".repeat(13), "bell 3 0 0;"};
        for (int f = 1; f <= 6; f++) {
            Check.tell(x, texts[f - 1]);
            e.due("fault()", x.fault(), f);
            x.feed(0);
            x.end(0);
            e.due("fault(): the tape changes nothing of it", x.fault(), f);
        }
        Check.tell(x, "gap 1;");
        e.due("fault() of a text that is taken", x.fault(), 0);
    }

    private void questions() {
        e.sentence(6, "RULES 0, 1. BAD.");
        ChimeShares x = Check.told("houses 4;gap 7;bell 1 2 5 half 3;bell 2 0 0 shut;tune 8 1 0 1;feud 0 2;feud 1 2;");
        e.due("rule(0)", x.rule(0), 4);
        e.due("rule(1)", x.rule(1), 7);
        e.due("rule(2)", x.rule(2), -1);
        e.sentence(7, "Of a BELL: 0 OWNER, 1 FEE, 2 FLAT, 3 whether it is SHUT, 4 the HOUSE that has HALF (NONE). BAD.");
        e.bell(x, 0, 1, 2, 5, 0, 3, -1);
        e.bell(x, 1, 2, 0, 0, 1, -4, -1);
        e.bell(x, 2, -1, -1, -1, -1, -1);
        e.sentence(8, "Of a TUNE: 0 WORTH, 1 STROKES; 10 and i: the BELL of STROKE i. BAD.");
        int[] told = {8, 3, -1, -1, -1, -1, -1, -1, -1, -1, 1, 0, 1, -1, -1};
        for (int what = 0; what < told.length; what++) {
            e.due("tune(0, " + what + ")", x.tune(0, what), told[what]);
        }
        e.due("tune(1, 0)", x.tune(1, 0), -1);
        e.sentence(9, "HOUSES that a HOUSE has a FEUD with (bits). BAD.");
        int[] bits = {4, 4, 3, 0, -1, -1};
        for (int h = 0; h < bits.length; h++) {
            e.due("feuds(" + h + ")", x.feuds(h), bits[h]);
        }
        ChimeShares six = Check.told("houses 6;feud 5 0;feud 1 5;feud 5 2;feud 3 5;feud 5 4;");
        e.due("feuds(5) with all others", six.feuds(5), 31);
        e.due("feuds(0)", six.feuds(0), 32);
        for (int never : Edges.NEVER) {
            e.due("rule(" + never + ")", x.rule(never), -1);
            e.due("bell(" + never + ", 0)", x.bell(never, 0), -1);
            e.due("bell(0, " + never + ")", x.bell(0, never), -1);
            e.due("tune(" + never + ", 0)", x.tune(never, 0), -1);
            e.due("tune(0, " + never + ")", x.tune(0, never), -1);
            e.due("feuds(" + never + ")", x.feuds(never), -1);
        }
    }
}
