import java.util.ArrayList;
import java.util.Arrays;
import java.util.List;
import java.util.Set;
import java.util.TreeSet;
import java.util.regex.Matcher;
import java.util.regex.Pattern;

/** The document written a second time, by lists and by trying all there is, to set answers against. */
final class Model {
    static final int BAD = -1, STATE = -2, FULL = -3, NONE = -4;

    static final class Bell {
        int owner, fee, flat, half = NONE;
        boolean shut;

        Bell copy() {
            Bell b = new Bell();
            b.owner = owner;
            b.fee = fee;
            b.flat = flat;
            b.half = half;
            b.shut = shut;
            return b;
        }
    }

    record Tune(int worth, List<Integer> strokes) { }

    record Image(List<Bell> bells, Set<String> feuds, List<Integer> heard) { }

    private static final class TextFault extends Exception {
        private static final long serialVersionUID = 1;
        final int fault, place;

        TextFault(int fault, int place) {
            this.fault = fault;
            this.place = place;
        }
    }

    private static final Pattern TOKEN = Pattern.compile("[a-z]+|[0-9]+|;");

    private StringBuilder tape = new StringBuilder();
    private int fault, torn, houses = 3, gap = 3;
    private List<Bell> bells = new ArrayList<>();
    private List<Tune> tunes = new ArrayList<>();
    private Set<String> feuds = new TreeSet<>();
    private List<Integer> heard = new ArrayList<>();
    private final Image[] images = new Image[2];
    private final Object[] sheets = new Object[4];

    // ---- the text

    int feed(long v) {
        if (tape.length() + 8 > 320) {
            return FULL;
        }
        for (int i = 56; i >= 0; i -= 8) {
            tape.append((char) (v >>> i & 255));
        }
        return tape.length();
    }

    int end(int n) {
        if (n < 0 || n > tape.length()) {
            return BAD;
        }
        int had = tape.length();
        tape.setLength(n);
        return had;
    }

    private String source, token;
    private int place, behind;

    private void next() throws TextFault {
        place = behind;
        while (place < source.length() && source.charAt(place) == ' ') {
            place++;
        }
        if (place == source.length()) {
            token = "";
            return;
        }
        Matcher m = TOKEN.matcher(source);
        if (!m.find(place) || m.start() != place || (Character.isDigit(m.group().charAt(0)) && m.group().length() > 2)) {
            throw new TextFault(1, place);
        }
        token = m.group();
        behind = m.end();
    }

    private int number(int least, int most) throws TextFault {
        next();
        return here(least, most);
    }

    private int here(int least, int most) throws TextFault {
        if (token.isEmpty() || !Character.isDigit(token.charAt(0))) {
            throw new TextFault(2, place);
        }
        int v = Integer.parseInt(token);
        if (v < least || v > most) {
            throw new TextFault(3, place);
        }
        return v;
    }

    private void need(boolean holds, int ifNot) throws TextFault {
        if (!holds) {
            throw new TextFault(ifNot, place);
        }
    }

    private static String pair(int a, int b) {
        return Math.min(a, b) + "," + Math.max(a, b);
    }

    int text() {
        source = tape.toString();
        tape = new StringBuilder();
        behind = 0;
        try {
            int lines = parse();
            fault = 0;
            return lines;
        } catch (TextFault f) {
            fault = f.fault;
            return -10 - f.place;
        }
    }

    private int parse() throws TextFault {
        Integer newHouses = null, newGap = null;
        List<Bell> newBells = new ArrayList<>();
        List<Tune> newTunes = new ArrayList<>();
        Set<String> newFeuds = new TreeSet<>();
        int lines = 0, greatestHouse = 0, greatestBell = -1;
        for (next(); !token.isEmpty(); next()) {
            switch (token) {
                case "houses" -> {
                    need(newHouses == null, 4);
                    newHouses = number(1, 6);
                    next();
                }
                case "gap" -> {
                    need(newGap == null, 4);
                    newGap = number(0, 9);
                    next();
                }
                case "bell" -> {
                    need(newBells.size() < 12, 5);
                    Bell b = new Bell();
                    newBells.add(b);
                    b.owner = number(0, 5);
                    b.fee = number(0, 20);
                    b.flat = number(0, 9);
                    next();
                    while (token.equals("half") || token.equals("shut")) {
                        if (token.equals("half")) {
                            need(b.half == NONE, 4);
                            int h = number(0, 5);
                            need(h != b.owner, 4);
                            b.half = h;
                        } else {
                            need(!b.shut, 4);
                            b.shut = true;
                        }
                        next();
                    }
                    greatestHouse = Math.max(greatestHouse, Math.max(b.owner, b.half));
                }
                case "tune" -> {
                    need(newTunes.size() < 6, 5);
                    Tune t = new Tune(number(0, 99), new ArrayList<>());
                    newTunes.add(t);
                    next();
                    do {
                        int stroke = here(0, 11);
                        need(t.strokes.size() < 12, 5);
                        t.strokes.add(stroke);
                        greatestBell = Math.max(greatestBell, stroke);
                        next();
                    } while (!token.isEmpty() && Character.isDigit(token.charAt(0)));
                }
                case "feud" -> {
                    int a = number(0, 5);
                    int b = number(0, 5);
                    need(a != b, 4);
                    newFeuds.add(pair(a, b));
                    greatestHouse = Math.max(greatestHouse, Math.max(a, b));
                    next();
                }
                default -> need(false, 2);
            }
            need(token.equals(";"), 2);
            lines++;
        }
        int manyHouses = newHouses == null ? 3 : newHouses;
        if (greatestHouse >= manyHouses || greatestBell >= newBells.size()) {
            throw new TextFault(6, source.length());
        }
        houses = manyHouses;
        gap = newGap == null ? 3 : newGap;
        bells = newBells;
        tunes = newTunes;
        feuds = newFeuds;
        heard = new ArrayList<>();
        Arrays.fill(images, null);
        return lines;
    }

    int fault() {
        return fault;
    }

    int rule(int what) {
        return what == 0 ? houses : what == 1 ? gap : BAD;
    }

    private boolean noBell(int b) {
        return b < 0 || b >= bells.size();
    }

    private boolean noHouse(int h) {
        return h < 0 || h >= houses;
    }

    private boolean noTune(int t) {
        return t < 0 || t >= tunes.size();
    }

    int bell(int b, int what) {
        if (noBell(b) || what < 0 || what > 4) {
            return BAD;
        }
        Bell x = bells.get(b);
        return new int[] {x.owner, x.fee, x.flat, x.shut ? 1 : 0, x.half}[what];
    }

    int tune(int t, int what) {
        if (noTune(t)) {
            return BAD;
        }
        Tune x = tunes.get(t);
        if (what == 0) {
            return x.worth;
        }
        if (what == 1) {
            return x.strokes.size();
        }
        return what >= 10 && what < 10 + x.strokes.size() ? x.strokes.get(what - 10) : BAD;
    }

    int feuds(int h) {
        if (noHouse(h)) {
            return BAD;
        }
        int bits = 0;
        for (int g = 0; g < houses; g++) {
            if (feuds.contains(pair(g, h))) {
                bits += 1 << g;
            }
        }
        return bits;
    }

    // ---- what is changed

    int fee(int b, int v) {
        if (noBell(b) || v < 0 || v > 20) {
            return BAD;
        }
        int was = bells.get(b).fee;
        bells.get(b).fee = v;
        return was;
    }

    int shut(int b, boolean is) {
        if (noBell(b)) {
            return BAD;
        }
        boolean was = bells.get(b).shut;
        bells.get(b).shut = is;
        return was ? 1 : 0;
    }

    int sell(int b, int h) {
        if (noBell(b) || noHouse(h)) {
            return BAD;
        }
        Bell x = bells.get(b);
        int was = x.owner;
        if (was == h) {
            return STATE;
        }
        x.owner = h;
        if (x.half == h) {
            x.half = NONE;
        }
        return was;
    }

    int half(int b, int h) {
        if (noBell(b) || (h != NONE && noHouse(h))) {
            return BAD;
        }
        Bell x = bells.get(b);
        if (x.owner == h) {
            return STATE;
        }
        int was = x.half;
        x.half = h;
        return was;
    }

    int feud(int a, int b, boolean is) {
        if (noHouse(a) || noHouse(b) || a == b) {
            return BAD;
        }
        boolean had = feuds.contains(pair(a, b));
        if (is) {
            feuds.add(pair(a, b));
        } else {
            feuds.remove(pair(a, b));
        }
        return had ? 1 : 0;
    }

    int feuding(int seed) {
        feuds.clear();
        for (int g = 0; g < houses; g++) {
            for (int l = 0; l < g; l++) {
                seed = (int) (seed * 1103515245L + 12345L);
                long bits = (seed & 0xffffffffL) / 65536 % 32768;
                if (bits % 4 == 0) {
                    feuds.add(pair(l, g));
                }
            }
        }
        return feuds.size();
    }

    // ---- tunes

    /** For each stroke whether it rings. */
    private List<Boolean> rings(List<Integer> strokes) {
        List<Boolean> all = new ArrayList<>();
        for (int i = 0; i < strokes.size(); i++) {
            int last = all.lastIndexOf(true);
            Bell b = bells.get(strokes.get(i));
            boolean feud = last >= 0 && feuds.contains(pair(bells.get(strokes.get(last)).owner, b.owner));
            all.add(!b.shut && !feud);
        }
        return all;
    }

    int ring(int t, int what) {
        if (noTune(t) || what < 0 || what > 3) {
            return BAD;
        }
        Tune x = tunes.get(t);
        List<Boolean> rung = rings(x.strokes);
        int cost = 0, silent = 0, flats = 0, value = x.worth;
        for (int i = 0; i < rung.size(); i++) {
            if (rung.get(i)) {
                cost += bells.get(x.strokes.get(i)).fee;
                flats += bells.get(x.strokes.get(i)).flat;
            } else {
                silent += 1 << i;
                value -= gap;
            }
        }
        return new int[] {cost, silent, flats, value - cost - flats + 1000}[what];
    }

    int taken() {
        int best = NONE;
        for (int t = tunes.size() - 1; t >= 0; t--) {
            if (ring(t, 3) > 1000 && (best == NONE || ring(t, 3) >= ring(best, 3))) {
                best = t;
            }
        }
        return best;
    }

    private int stroke(int h, Bell b) {
        if (b.half == NONE) {
            return b.owner == h ? 2 * b.fee : 0;
        }
        return b.owner == h || b.half == h ? b.fee : 0;
    }

    int gets(int h, int t) {
        if (noHouse(h) || noTune(t)) {
            return BAD;
        }
        int sum = 0;
        List<Integer> strokes = tunes.get(t).strokes;
        List<Boolean> rung = rings(strokes);
        for (int i = 0; i < strokes.size(); i++) {
            sum += rung.get(i) ? stroke(h, bells.get(strokes.get(i))) : 0;
        }
        return sum;
    }

    int wage(int h) {
        if (noHouse(h)) {
            return BAD;
        }
        return taken() == NONE ? 0 : gets(h, taken());
    }

    // ---- asks

    int ask(int h, int fee) {
        if (noHouse(h) || fee < 0 || fee > 20) {
            return BAD;
        }
        List<Bell> before = bells;
        bells = copyOf(before);
        setAll(h, fee);
        int brings = wage(h);
        bells = before;
        return brings;
    }

    private void setAll(int h, int fee) {
        for (Bell b : bells) {
            if (b.owner == h) {
                b.fee = fee;
            }
        }
    }

    private static List<Bell> copyOf(List<Bell> bells) {
        List<Bell> copy = new ArrayList<>();
        for (Bell b : bells) {
            copy.add(b.copy());
        }
        return copy;
    }

    int best(int h, int what) {
        if (noHouse(h) || what < 0 || what > 1) {
            return BAD;
        }
        int fee = 20;
        for (int f = 19; f >= 0; f--) {
            if (ask(h, f) >= ask(h, fee)) {
                fee = f;
            }
        }
        return what == 0 ? fee : ask(h, fee);
    }

    int settle(int n) {
        if (n < 1 || n > 30) {
            return BAD;
        }
        for (int changed = 0; changed < n; changed++) {
            boolean any = false;
            for (int h = 0; h < houses; h++) {
                if (best(h, 1) > wage(h)) {
                    setAll(h, best(h, 0));
                    any = true;
                }
            }
            if (!any) {
                return changed;
            }
        }
        return NONE;
    }

    int settled() {
        for (int h = 0; h < houses; h++) {
            for (int f = 0; f <= 20; f++) {
                if (ask(h, f) > wage(h)) {
                    return 0;
                }
            }
        }
        return 1;
    }

    // ---- feasts

    int feast(int n, int what) {
        if (n < 1 || n > 6 || what < 0 || what > 1) {
            return BAD;
        }
        return n > tunes.size() ? NONE : fair(n, 72, what);
    }

    int fair(int n, int bound, int what) {
        if (n < 1 || n > 6 || bound < 0 || bound > 72 || what < 0 || what > 1) {
            return BAD;
        }
        int bestCost = Integer.MAX_VALUE, bestBits = NONE;
        for (int bits = (1 << tunes.size()) - 1; bits > 0; bits--) {
            int cost = 0, most = 0;
            for (int h = 0; h < houses; h++) {
                int mine = 0;
                for (int t = 0; t < tunes.size(); t++) {
                    mine += (bits >> t & 1) * strokesOf(h, t);
                }
                most = Math.max(most, mine);
            }
            for (int t = 0; t < tunes.size(); t++) {
                cost += (bits >> t & 1) * ring(t, 0);
            }
            if (Integer.bitCount(bits) == n && most <= bound && cost <= bestCost) {
                bestCost = cost;
                bestBits = bits;
            }
        }
        return bestBits == NONE || what == 1 ? bestBits : bestCost;
    }

    private int strokesOf(int h, int t) {
        int sum = 0;
        List<Integer> strokes = tunes.get(t).strokes;
        List<Boolean> rung = rings(strokes);
        for (int i = 0; i < strokes.size(); i++) {
            sum += rung.get(i) && bells.get(strokes.get(i)).owner == h ? 1 : 0;
        }
        return sum;
    }

    // ---- round a bell

    private record Row(int sum, List<Integer> strokes) implements Comparable<Row> {
        @Override public int compareTo(Row other) {
            if (sum != other.sum) {
                return Integer.compare(sum, other.sum);
            }
            for (int i = 0; i < strokes.size(); i++) {
                if (!strokes.get(i).equals(other.strokes.get(i))) {
                    return strokes.get(i).compareTo(other.strokes.get(i));
                }
            }
            return 0;
        }
    }

    /** Stroke by stroke the nearest row that ends in each bell; null, if there is none. */
    private Row nearestRow(int t, int without) {
        Row[] ends = new Row[bells.size()];
        for (int i = 0; i < tunes.get(t).strokes.size(); i++) {
            int wanted = tunes.get(t).strokes.get(i);
            Row[] longer = new Row[bells.size()];
            for (int b = 0; b < bells.size(); b++) {
                if (b == without || bells.get(b).shut) {
                    continue;
                }
                Row best = i == 0 ? new Row(0, List.of()) : null;
                for (int a = 0; i > 0 && a < bells.size(); a++) {
                    if (ends[a] != null && !feuds.contains(pair(bells.get(a).owner, bells.get(b).owner))
                        && (best == null || ends[a].compareTo(best) < 0)) {
                        best = ends[a];
                    }
                }
                if (best != null) {
                    List<Integer> strokes = new ArrayList<>(best.strokes);
                    strokes.add(b);
                    longer[b] = new Row(best.sum + Math.abs(b - wanted), strokes);
                }
            }
            ends = longer;
        }
        Row nearest = null;
        for (Row row : ends) {
            if (row != null && (nearest == null || row.compareTo(nearest) < 0)) {
                nearest = row;
            }
        }
        return nearest;
    }

    int nearest(int t, int b, int what) {
        if (noTune(t) || noBell(b) || (what != 0 && (what < 10 || what >= 10 + tunes.get(t).strokes.size()))) {
            return BAD;
        }
        Row row = nearestRow(t, b);
        if (row == null) {
            return NONE;
        }
        return what == 0 ? row.sum : row.strokes.get(what - 10);
    }

    int dear(int t) {
        if (noTune(t)) {
            return BAD;
        }
        int dearest = NONE;
        long farthest = -1;
        for (int b = 0; b < bells.size(); b++) {
            Row row = nearestRow(t, b);
            long far = row == null ? Long.MAX_VALUE : row.sum;
            if (far > farthest) {
                farthest = far;
                dearest = b;
            }
        }
        return dearest;
    }

    // ---- storms, wine

    int storm(int h, int what) {
        if (noHouse(h) || what < 0 || what > 1) {
            return BAD;
        }
        int gets = 0, cost = 0, own = 0;
        for (Bell b : bells) {
            gets += stroke(h, b);
            cost += 2 * b.fee;
            own += b.owner == h ? 1 : 0;
        }
        return what == 0 ? gets : 100000 + bells.size() * gets - cost * own;
    }

    int wine(int w, int h) {
        if (w < 0 || w > 999 || noHouse(h)) {
            return BAD;
        }
        int[] strokes = new int[houses];
        int all = 0;
        for (int g = 0; g < houses; g++) {
            for (int t = 0; t < tunes.size(); t++) {
                strokes[g] += strokesOf(g, t);
            }
            all += strokes[g];
        }
        if (all == 0) {
            return NONE;
        }
        int left = w;
        int[] gets = new int[houses];
        int[] rests = new int[houses];
        List<Integer> byRest = new ArrayList<>();
        for (int g = 0; g < houses; g++) {
            gets[g] = w * strokes[g] / all;
            rests[g] = w * strokes[g] % all;
            left -= gets[g];
            byRest.add(g);
        }
        byRest.sort((a, b) -> Integer.compare(rests[b], rests[a]));
        for (int i = 0; i < left; i++) {
            gets[byRest.get(i)]++;
        }
        return gets[h];
    }

    // ---- heard

    int hear(int v) {
        if (v != NONE && noBell(v)) {
            return BAD;
        }
        if (heard.size() == 12) {
            return FULL;
        }
        heard.add(v);
        return heard.size();
    }

    int hush() {
        int had = heard.size();
        heard = new ArrayList<>();
        return had;
    }

    /** The houses that refused, or null, if it does not fit. */
    private Set<Integer> refused(int t) {
        List<Integer> strokes = tunes.get(t).strokes;
        if (strokes.size() != heard.size()) {
            return null;
        }
        Set<Integer> rang = new TreeSet<>(), refused = new TreeSet<>();
        for (int i = 0; i < strokes.size(); i++) {
            if (heard.get(i) != NONE && !heard.get(i).equals(strokes.get(i))) {
                return null;
            }
            (heard.get(i) == NONE ? refused : rang).add(bells.get(strokes.get(i)).owner);
        }
        Set<Integer> both = new TreeSet<>(rang);
        both.retainAll(refused);
        return both.isEmpty() ? refused : null;
    }

    int fits(int t) {
        if (noTune(t)) {
            return BAD;
        }
        if (heard.isEmpty()) {
            return STATE;
        }
        return refused(t) == null ? 0 : 1;
    }

    int which(int what) {
        if (what < 0 || what > 3) {
            return BAD;
        }
        if (heard.isEmpty()) {
            return STATE;
        }
        List<Integer> fitting = new ArrayList<>();
        for (int t = 0; t < tunes.size(); t++) {
            if (refused(t) != null) {
                fitting.add(t);
            }
        }
        if (what == 0) {
            return fitting.size();
        }
        if (fitting.isEmpty()) {
            return NONE;
        }
        if (what == 1) {
            return fitting.get(0);
        }
        Set<Integer> houses = new TreeSet<>(refused(fitting.get(0)));
        for (int t : fitting) {
            if (what == 3) {
                houses.retainAll(refused(t));
            }
        }
        int bits = 0;
        for (int h : houses) {
            bits += 1 << h;
        }
        return bits;
    }

    // ---- images, sheets

    private Image image() {
        return new Image(copyOf(bells), new TreeSet<>(feuds), new ArrayList<>(heard));
    }

    int keep(int k) {
        if (k < 0 || k > 1) {
            return BAD;
        }
        int was = images[k] == null ? 0 : 1;
        images[k] = image();
        return was;
    }

    int back(int k) {
        if (k < 0 || k > 1) {
            return BAD;
        }
        if (images[k] == null) {
            return STATE;
        }
        bells = images[k].bells;
        feuds = images[k].feuds;
        heard = images[k].heard;
        images[k] = image();
        return taken();
    }

    int sheet(int k, int lane, int n) {
        if (k < 0 || k > 3 || lane < 0 || lane > 2 || n > 40) {
            return BAD;
        }
        try {
            sheets[k] = lane == 0 ? new byte[n] : lane == 1 ? new short[n] : new int[n];
            return 1;
        } catch (NegativeArraySizeException e) {
            return -14;
        }
    }

    int lay(int k, int i, int v) {
        if (k < 0 || k > 3) {
            return BAD;
        }
        try {
            if (sheets[k] instanceof byte[] row) {
                row[i] = (byte) v;
            } else if (sheets[k] instanceof short[] row) {
                row[i] = (short) v;
            } else {
                ((int[]) sheets[k])[i] = v;
            }
            return 1;
        } catch (NullPointerException e) {
            return -11;
        } catch (ArrayIndexOutOfBoundsException e) {
            return -12;
        }
    }

    int read(int k, int lane, int f, int n) {
        if (k < 0 || k > 3 || lane < 0 || lane > 2 || n < 0 || n > 12) {
            return BAD;
        }
        List<Integer> before = new ArrayList<>(heard);
        int found = 0, came = 0;
        try {
            for (int i = 0; i < n; i++) {
                Object row = sheets[k];
                int v = lane == 0 ? ((byte[]) row)[f + i] : lane == 1 ? ((short[]) row)[f + i] : ((int[]) row)[f + i];
                int answer = hear(v);
                if (answer < 0) {
                    heard = before;
                    return answer == BAD ? -20 - i : FULL;
                }
                came++;
            }
        } catch (NullPointerException e) {
            found = 1;
        } catch (ArrayIndexOutOfBoundsException e) {
            found = 2;
        } catch (ClassCastException e) {
            found = 3;
        }
        torn = found;
        return came;
    }

    int torn() {
        return torn;
    }

    int count(int what) {
        switch (what) {
            case 0: return bells.size();
            case 1: return tunes.size();
            case 2: return feuds.size();
            case 3: return heard.size();
            case 4: return (images[0] == null ? 0 : 1) + (images[1] == null ? 0 : 1);
            case 5: return tape.length();
            case 6: return sheets[0] == null ? NONE : java.lang.reflect.Array.getLength(sheets[0]);
            default: return BAD;
        }
    }
}
