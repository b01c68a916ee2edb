import java.util.ArrayList;
import java.util.List;

/** All that can be asked of an object, to see whether two of them are alike. */
final class Seen {
    private Seen() {
    }

    /** Everything; asking takes the object apart in the end. */
    static List<Integer> whole(ChimeShares x) {
        List<Integer> all = new ArrayList<>();
        all.add(x.fault());
        all.add(x.torn());
        all.addAll(town(x));
        for (int k = 0; k < 4; k++) {
            for (int lane = 0; lane < 3; lane++) {
                for (int i = 0; i <= 40; i++) {
                    addCell(x, k, lane, i, all);
                }
            }
        }
        for (int k = 0; k < 2; k++) {
            all.add(x.back(k));
            all.addAll(town(x));
        }
        all.add(x.text());
        all.add(x.fault());
        all.addAll(town(x));
        return all;
    }

    /** Whether the cell is there, and which stroke it is, by the tunes that it fits with one more. */
    private static void addCell(ChimeShares x, int k, int lane, int i, List<Integer> all) {
        x.hush();
        all.add(x.read(k, lane, i, 1));
        all.add(x.torn());
        all.add(x.hear(0));
        for (int t = 0; t < 6; t++) {
            all.add(x.fits(t));
        }
    }

    /** What is asked without a change. */
    static List<Integer> town(ChimeShares x) {
        List<Integer> all = new ArrayList<>();
        for (int what = 0; what <= 7; what++) {
            all.add(x.count(what));
            all.add(x.which(what));
            all.add(x.rule(what));
        }
        for (int b = 0; b <= 12; b++) {
            for (int what = 0; what <= 5; what++) {
                all.add(x.bell(b, what));
            }
        }
        all.add(x.taken());
        all.add(x.settled());
        for (int h = 0; h <= 6; h++) {
            addHouse(x, h, all);
        }
        for (int t = 0; t <= 6; t++) {
            addTune(x, t, all);
        }
        for (int n = 1; n <= 6; n++) {
            for (int bound = 0; bound <= 12; bound += 2) {
                all.add(x.fair(n, bound, 0));
                all.add(x.fair(n, bound, 1));
            }
            all.add(x.feast(n, 1));
        }
        return all;
    }

    private static void addHouse(ChimeShares x, int h, List<Integer> all) {
        all.add(x.feuds(h));
        all.add(x.wage(h));
        all.add(x.best(h, 0));
        all.add(x.best(h, 1));
        all.add(x.storm(h, 0));
        all.add(x.storm(h, 1));
        all.add(x.wine(13, h));
        all.add(x.wine(999, h));
        for (int fee = 0; fee <= 20; fee++) {
            all.add(x.ask(h, fee));
        }
        for (int t = 0; t <= 6; t++) {
            all.add(x.gets(h, t));
        }
    }

    private static void addTune(ChimeShares x, int t, List<Integer> all) {
        all.add(x.fits(t));
        all.add(x.dear(t));
        for (int what = 0; what <= 22; what++) {
            all.add(x.tune(t, what));
            all.add(x.ring(t, what));
            for (int b = 0; b <= 12; b++) {
                all.add(x.nearest(t, b, what));
            }
        }
    }
}
