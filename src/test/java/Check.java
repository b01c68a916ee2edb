import java.nio.charset.StandardCharsets;

/** What the tests share: answers set against those that are due, and texts put on the tape. */
final class Check {
    private final String name;
    private int asked;
    private int wrong;

    Check(String name) {
        this.name = name;
    }

    void due(String call, long got, long want) {
        asked++;
        if (got != want) {
            wrong++;
            if (wrong <= 50) {
                System.out.println(name + ": " + call + " answered " + got + ", due is " + want);
            }
        }
    }

    void isTrue(String what, boolean holds) {
        due(what, holds ? 1 : 0, 1);
    }

    /** Ends the test: exit code 1, if an answer was not the one that is due. */
    void close() {
        System.out.println(name + ": " + asked + " answers, " + wrong + " wrong");
        if (wrong != 0) {
            System.exit(1);
        }
    }

    /** Puts the text on the tape, which must be empty, and cuts it to its length. */
    static void put(ChimeShares x, String text) {
        put(x, text.getBytes(StandardCharsets.ISO_8859_1));
    }

    static void put(ChimeShares x, byte[] bytes) {
        for (int at = 0; at < bytes.length; at += 8) {
            long v = 0;
            for (int i = 0; i < 8; i++) {
                v = v << 8 | (at + i < bytes.length ? bytes[at + i] & 255 : 32);
            }
            x.feed(v);
        }
        x.end(bytes.length);
    }

    static int tell(ChimeShares x, String text) {
        put(x, text);
        return x.text();
    }

    /** A new object that the text has been told to. */
    static ChimeShares told(String text) {
        ChimeShares x = new ChimeShares();
        int lines = tell(x, text);
        if (lines < 0) {
            throw new IllegalStateException(text + " was refused: " + lines + ", fault " + x.fault());
        }
        return x;
    }

    /** A text that is refused: the fault's number and its place. */
    void refused(String text, int fault, int place) {
        ChimeShares x = new ChimeShares();
        due("text() of '" + text + "'", tell(x, text), -10 - place);
        due("fault() of '" + text + "'", x.fault(), fault);
        due("count(5) behind '" + text + "'", x.count(5), 0);
    }
}
