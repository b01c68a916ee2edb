import java.util.List;
import java.util.function.ToIntFunction;

/** The order of the answers, and that what is refused changes nothing: two objects alike, one of which is asked what it refuses. */
final class RefusedEdges {
    private final Edges e;
    private final List<Integer> untouched = Seen.whole(busy());

    RefusedEdges(Edges e) {
        this.e = e;
    }

    void run() {
        e.term("Answers: BAD -1 (a number is not as told, there is no such BELL, HOUSE, TUNE, IMAGE, SHEET), STATE -2 (as told), FULL -3, "
            + "NONE -4 (there is none), the first that fits; what is refused changes nothing (but THE TAPE, as told).");
        e.due("BAD", ChimeShares.BAD, -1);
        e.due("STATE", ChimeShares.STATE, -2);
        e.due("FULL", ChimeShares.FULL, -3);
        e.due("NONE", ChimeShares.NONE, -4);
        refuseText();
        refuseChanges();
        refuseQuestions();
        refuseWhenFull();
        refuseSheets();
    }

    /** A town in which every part of the state holds something; its tape has one line and a half. */
    private static ChimeShares busy() {
        ChimeShares x = new ChimeShares();
        Check.tell(x, "houses 4;gap 2;bell 0 5 1;bell 1 4 0 half 2;bell 2 3 2 shut;bell 0 1 0;tune 30 0 1;tune 20 2 0;tune 9 3 3;feud 0 2;");
        Check.tell(x, "gap 10;");
        x.hear(0);
        x.keep(0);
        x.fee(3, 7);
        x.feud(1, 3, true);
        x.hear(-4);
        x.keep(1);
        x.hush();
        x.hear(3);
        x.hear(3);
        x.sheet(0, 0, 4);
        x.lay(0, 1, 3);
        x.lay(0, 2, 9);
        x.sheet(1, 2, 2);
        x.lay(1, 0, -4);
        x.read(0, 1, 0, 1);
        Check.put(x, "gap 7;hou");
        return x;
    }

    private void refused(String call, int due, ToIntFunction<ChimeShares> asked) {
        ChimeShares x = busy();
        e.due(call, asked.applyAsInt(x), due);
        e.check.isTrue(call + " changes nothing", Seen.whole(x).equals(untouched));
    }

    private void refuseText() {
        refused("end(-1)", -1, x -> x.end(-1));
        refused("end(10)", -1, x -> x.end(10));
        // Of the tape alone a text that is refused leaves nothing, and its fault is told.
        ChimeShares x = busy();
        e.due("text() of 'gap 7;hou'", x.text(), -16);
        e.due("fault()", x.fault(), 2);
        e.due("count(5)", x.count(5), 0);
        Check.tell(x, "gap 10;");
        Check.put(x, "gap 7;hou");
        e.check.isTrue("a refused text changes nothing but the tape", Seen.whole(x).equals(untouched));
    }

    private void refuseChanges() {
        refused("fee(4, 1)", -1, x -> x.fee(4, 1));
        refused("fee(0, 21)", -1, x -> x.fee(0, 21));
        refused("fee(0, -1)", -1, x -> x.fee(0, -1));
        refused("shut(4, true)", -1, x -> x.shut(4, true));
        refused("shut(-1, false)", -1, x -> x.shut(-1, false));
        refused("sell(0, 0)", -2, x -> x.sell(0, 0));
        refused("sell(0, 4)", -1, x -> x.sell(0, 4));
        refused("sell(4, 0)", -1, x -> x.sell(4, 0));
        refused("half(1, 1)", -2, x -> x.half(1, 1));
        refused("half(1, 4)", -1, x -> x.half(1, 4));
        refused("half(4, -4)", -1, x -> x.half(4, -4));
        refused("feud(0, 0, true)", -1, x -> x.feud(0, 0, true));
        refused("feud(2, 2, false)", -1, x -> x.feud(2, 2, false));
        refused("feud(0, 4, true)", -1, x -> x.feud(0, 4, true));
        refused("feud(4, 0, true)", -1, x -> x.feud(4, 0, true));
        refused("settle(0)", -1, x -> x.settle(0));
        refused("settle(31)", -1, x -> x.settle(31));
        refused("hear(4)", -1, x -> x.hear(4));
        refused("hear(-1)", -1, x -> x.hear(-1));
        refused("keep(2)", -1, x -> x.keep(2));
        refused("back(2)", -1, x -> x.back(2));
        refused("back(-1)", -1, x -> x.back(-1));
    }

    private void refuseQuestions() {
        refused("ring(3, 0)", -1, x -> x.ring(3, 0));
        refused("gets(4, 0)", -1, x -> x.gets(4, 0));
        refused("ask(0, 21)", -1, x -> x.ask(0, 21));
        refused("best(0, 2)", -1, x -> x.best(0, 2));
        refused("feast(4, 0)", -4, x -> x.feast(4, 0));
        refused("fair(1, 0, 0)", -4, x -> x.fair(1, 0, 0));
        refused("nearest(0, 4, 0)", -1, x -> x.nearest(0, 4, 0));
        refused("dear(3)", -1, x -> x.dear(3));
        refused("wine(1000, 0)", -1, x -> x.wine(1000, 0));
        refused("fits(3)", -1, x -> x.fits(3));
        refused("which(4)", -1, x -> x.which(4));
        // What is answered changes nothing either.
        refused("ask(0, 9)", 18, x -> x.ask(0, 9));
        refused("best(3, 0)", 0, x -> x.best(3, 0));
        refused("settled()", 0, x -> x.settled());
        refused("taken()", 0, x -> x.taken());
        refused("which(1)", 2, x -> x.which(1));
    }

    /** Ahead of each call the room is filled, in both objects alike. */
    private void refuseWhenFull() {
        ChimeShares x = busy();
        ChimeShares y = busy();
        for (ChimeShares z : new ChimeShares[] {x, y}) {
            for (int i = 0; i < 10; i++) {
                z.hear(1);
            }
            for (int i = 0; i < 38; i++) {
                z.feed(0x2020202020202020L);
            }
        }
        e.due("count(3)", x.count(3), 12);
        e.due("count(5)", x.count(5), 313);
        e.due("hear(0)", x.hear(0), -3);
        e.due("hear(-4)", x.hear(-4), -3);
        e.due("hear(4)", x.hear(4), -1);
        e.due("read(0, 0, 0, 1)", x.read(0, 0, 0, 1), -3);
        e.due("read(0, 0, 2, 1)", x.read(0, 0, 2, 1), -20);
        e.due("read(4, 0, 0, 1)", x.read(4, 0, 0, 1), -1);
        e.due("feed(0)", x.feed(0), -3);
        e.check.isTrue("FULL changes nothing", Seen.whole(x).equals(Seen.whole(y)));
        ChimeShares none = new ChimeShares();
        e.due("back(0): STATE", none.back(0), -2);
        e.due("back(2): BAD ahead of STATE", none.back(2), -1);
        e.due("which(1): STATE ahead of NONE", none.which(1), -2);
        e.due("count(4)", none.count(4), 0);
    }

    private void refuseSheets() {
        refused("sheet(4, 0, 1)", -1, x -> x.sheet(4, 0, 1));
        refused("sheet(0, 3, 1)", -1, x -> x.sheet(0, 3, 1));
        refused("sheet(0, 0, 41)", -1, x -> x.sheet(0, 0, 41));
        refused("sheet(0, 0, -1)", -14, x -> x.sheet(0, 0, -1));
        refused("sheet(2, 0, -1)", -14, x -> x.sheet(2, 0, -1));
        refused("lay(4, 0, 1)", -1, x -> x.lay(4, 0, 1));
        refused("lay(0, 4, 1)", -12, x -> x.lay(0, 4, 1));
        refused("lay(0, -1, 1)", -12, x -> x.lay(0, -1, 1));
        refused("lay(2, 0, 1)", -11, x -> x.lay(2, 0, 1));
        refused("read(4, 0, 0, 1)", -1, x -> x.read(4, 0, 0, 1));
        refused("read(0, 3, 0, 1)", -1, x -> x.read(0, 3, 0, 1));
        refused("read(0, 0, 0, 13)", -1, x -> x.read(0, 0, 0, 13));
        refused("read(0, 0, 0, -1)", -1, x -> x.read(0, 0, 0, -1));
        refused("read(0, 0, 0, 3)", -22, x -> x.read(0, 0, 0, 3));
        refused("read(0, 0, 1, 4)", -21, x -> x.read(0, 0, 1, 4));
    }
}
