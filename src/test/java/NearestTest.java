import java.util.Random;

/** Promises 26 and 27: small towns in which all rows there are can be listed. */
public final class NearestTest {
    private static final Check check = new Check("NearestTest");
    private static final int TOWNS = 2000;

    private final int houses;
    private final int[] owner;
    private final boolean[] shut;
    private final boolean[][] feud;
    private final int[] tune;
    private int least;
    private int[] nearest;

    private NearestTest(Random random) {
        houses = 1 + random.nextInt(4);
        owner = new int[1 + random.nextInt(5)];
        shut = new boolean[owner.length];
        feud = new boolean[houses][houses];
        tune = new int[1 + random.nextInt(5)];
        for (int b = 0; b < owner.length; b++) {
            owner[b] = random.nextInt(houses);
            shut[b] = random.nextInt(4) == 0;
        }
        for (int a = 1; a < houses; a++) {
            for (int b = 0; b < a; b++) {
                feud[a][b] = random.nextInt(3) == 0;
                feud[b][a] = feud[a][b];
            }
        }
        for (int i = 0; i < tune.length; i++) {
            tune[i] = random.nextInt(owner.length);
        }
    }

    public static void main(String[] args) {
        Random random = new Random(7);
        int without = 0;
        for (int n = 0; n < TOWNS; n++) {
            without += new NearestTest(random).compare();
        }
        check.isTrue("there are bells without which there is no row, and others", without > 100 && without < TOWNS);
        check.close();
    }

    private String text() {
        StringBuilder s = new StringBuilder("houses ").append(houses).append(';');
        for (int b = 0; b < owner.length; b++) {
            s.append("bell ").append(owner[b]).append(" 1 1").append(shut[b] ? " shut;" : ";");
        }
        for (int a = 1; a < houses; a++) {
            for (int b = 0; b < a; b++) {
                s.append(feud[a][b] ? "feud " + a + " " + b + ";" : "");
            }
        }
        s.append("tune 9");
        for (int b : tune) {
            s.append(' ').append(b);
        }
        return s.append(';').toString();
    }

    /** How many bells there are without which there is no row. */
    private int compare() {
        String text = text();
        ChimeShares x = Check.told(text);
        int farthest = -1;
        int dear = ChimeShares.NONE;
        int none = 0;
        for (int b = 0; b < owner.length; b++) {
            least = Integer.MAX_VALUE;
            nearest = null;
            list(b, new int[tune.length], 0, 0);
            String where = " without " + b + " of '" + text + "'";
            check.due("nearest" + where, x.nearest(0, b, 0), nearest == null ? ChimeShares.NONE : least);
            for (int i = 0; i < tune.length; i++) {
                check.due("stroke " + i + where, x.nearest(0, b, 10 + i), nearest == null ? ChimeShares.NONE : nearest[i]);
            }
            none += nearest == null ? 1 : 0;
            if (least > farthest) {
                farthest = least;
                dear = b;
            }
        }
        check.due("dear of '" + text + "'", x.dear(0), dear);
        return none;
    }

    /** Rows come in the order of their strokes, so of several the first stays. */
    private void list(int without, int[] row, int at, int sum) {
        if (at == row.length) {
            if (sum < least) {
                least = sum;
                nearest = row.clone();
            }
            return;
        }
        for (int b = 0; b < owner.length; b++) {
            if (b != without && !shut[b] && (at == 0 || !feud[owner[b]][owner[row[at - 1]]])) {
                row[at] = b;
                list(without, row, at + 1, sum + Math.abs(b - tune[at]));
            }
        }
    }
}
