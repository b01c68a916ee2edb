import java.util.Arrays;

/**
 * Chimes in shares: bells owned by houses, tunes rung on them, feuds between the houses.
 * The document's promises are named by their numbers at the public methods.
 */
public final class ChimeShares {
    public static final int BAD = -1, STATE = -2, FULL = -3, NONE = -4;

    private static final int MOST_HOUSES = 6;
    private static final int MOST_BELLS = 12;
    private static final int MOST_TUNES = 6;
    private static final int MOST_STROKES = 12;
    private static final int MOST_FEE = 20;
    private static final int MOST_FLAT = 9;
    private static final int MOST_GAP = 9;
    private static final int MOST_WORTH = 99;
    private static final int MOST_ROUNDS = 30;
    private static final int MOST_WINE = 999;
    private static final int MOST_RINGING = MOST_TUNES * MOST_STROKES;
    private static final int HOUSES_AT_FIRST = 3;
    private static final int GAP_AT_FIRST = 3;

    private static final int TAPE_BYTES = 320;
    private static final int FED_BYTES = 8;
    private static final int IMAGES = 2;
    private static final int SHEETS = 4;
    private static final int LANES = 3;
    private static final int MOST_CELLS = 40;
    private static final int MOST_READ = 12;

    private static final int NULL_FAULT = 1;
    private static final int INDEX_FAULT = 2;
    private static final int CAST_FAULT = 3;
    private static final int SIZE_FAULT = 4;

    /** STROKE i is asked for by 10 and i. */
    private static final int FIRST_STROKE = 10;
    private static final int FAULT_BASE = -10;
    private static final int BAD_CELL_BASE = -20;
    private static final int VALUE_BASE = 1000;
    private static final int BALANCE_BASE = 100000;

    private final Tape tape = new Tape();
    private final Reader reader = new Reader(tape);
    private final Town town = new Town();
    private final Chimes chimes = town.chimes;
    private final Ringing ringing = new Ringing(town);
    private final Asks asks = new Asks(town, ringing);
    private final Feasts feasts = new Feasts(town, ringing);
    private final Nearest nearest = new Nearest(town);
    private final Hearing hearing = new Hearing(town);
    private final Chimes[] images = new Chimes[IMAGES];
    private final boolean[] kept = new boolean[IMAGES];
    private final Sheet[] sheets = new Sheet[SHEETS];
    private int tornFault;

    /** Promise 1. */
    public ChimeShares() {
        for (int k = 0; k < IMAGES; k++) {
            images[k] = new Chimes();
        }
        for (int k = 0; k < SHEETS; k++) {
            sheets[k] = new Sheet();
        }
    }

    // ---- the text

    /** Promise 2. */
    public int feed(long v) {
        if (tape.length + FED_BYTES > TAPE_BYTES) {
            return FULL;
        }
        tape.append(v);
        return tape.length;
    }

    /** Promise 3. */
    public int end(int n) {
        if (n < 0 || n > tape.length) {
            return BAD;
        }
        int had = tape.length;
        tape.length = n;
        return had;
    }

    /** Promise 4. */
    public int text() {
        boolean isTaken = reader.readAll();
        tape.length = 0;
        if (!isTaken) {
            return FAULT_BASE - reader.place;
        }
        town.copyFrom(reader.draft);
        for (int k = 0; k < IMAGES; k++) {
            kept[k] = false;
        }
        return reader.lines;
    }

    /** Promise 5. */
    public int fault() {
        return reader.fault;
    }

    /** Promise 6. */
    public int rule(int what) {
        switch (what) {
            case 0: return town.houses;
            case 1: return town.gap;
            default: return BAD;
        }
    }

    /** Promise 7. */
    public int bell(int b, int what) {
        if (!chimes.hasBell(b)) {
            return BAD;
        }
        switch (what) {
            case 0: return chimes.owner[b];
            case 1: return chimes.fee[b];
            case 2: return chimes.flat[b];
            case 3: return chimes.shut[b];
            case 4: return chimes.half[b];
            default: return BAD;
        }
    }

    /** Promise 8. */
    public int tune(int t, int what) {
        if (!town.hasTune(t)) {
            return BAD;
        }
        if (what == 0) {
            return town.worth[t];
        }
        if (what == 1) {
            return town.length[t];
        }
        return town.asksStroke(t, what) ? town.strokes[t][what - FIRST_STROKE] : BAD;
    }

    /** Promise 9. */
    public int feuds(int h) {
        return town.hasHouse(h) ? chimes.foes[h] : BAD;
    }

    // ---- what is changed

    /** Promise 10. */
    public int fee(int b, int v) {
        if (!chimes.hasBell(b) || !isFee(v)) {
            return BAD;
        }
        int was = chimes.fee[b];
        chimes.fee[b] = v;
        return was;
    }

    /** Promise 11. */
    public int shut(int b, boolean is) {
        if (!chimes.hasBell(b)) {
            return BAD;
        }
        int was = chimes.shut[b];
        chimes.shut[b] = is ? 1 : 0;
        return was;
    }

    /** Promise 12. */
    public int sell(int b, int h) {
        if (!chimes.hasBell(b) || !town.hasHouse(h)) {
            return BAD;
        }
        int was = chimes.owner[b];
        if (was == h) {
            return STATE;
        }
        chimes.owner[b] = h;
        if (chimes.half[b] == h) {
            chimes.half[b] = NONE;
        }
        return was;
    }

    /** Promise 13. */
    public int half(int b, int h) {
        if (!chimes.hasBell(b) || (h != NONE && !town.hasHouse(h))) {
            return BAD;
        }
        if (chimes.owner[b] == h) {
            return STATE;
        }
        int was = chimes.half[b];
        chimes.half[b] = h;
        return was;
    }

    /** Promise 14. */
    public int feud(int a, int b, boolean is) {
        if (!town.hasHouse(a) || !town.hasHouse(b) || a == b) {
            return BAD;
        }
        int had = chimes.areFoes(a, b) ? 1 : 0;
        chimes.setFoes(a, b, is);
        return had;
    }

    /** Promise 15. */
    public int feuding(int seed) {
        int state = seed;
        int pairs = 0;
        for (int greater = 1; greater < town.houses; greater++) {
            for (int lesser = 0; lesser < greater; lesser++) {
                state = state * 1103515245 + 12345;
                boolean is = ((state >>> 16) & 0x7fff) % 4 == 0;
                chimes.setFoes(greater, lesser, is);
                pairs += is ? 1 : 0;
            }
        }
        return pairs;
    }

    // ---- tunes

    /** Promise 16. */
    public int ring(int t, int what) {
        if (!town.hasTune(t)) {
            return BAD;
        }
        ringing.play(t);
        switch (what) {
            case 0: return ringing.cost;
            case 1: return ringing.silent;
            case 2: return ringing.flats;
            case 3: return ringing.value + VALUE_BASE;
            default: return BAD;
        }
    }

    /** Promise 17. */
    public int taken() {
        return ringing.tuneTaken();
    }

    /** Promise 18. */
    public int gets(int h, int t) {
        return town.hasHouse(h) && town.hasTune(t) ? ringing.shareOf(h, t) : BAD;
    }

    /** Promise 19. */
    public int wage(int h) {
        return town.hasHouse(h) ? ringing.wageOf(h) : BAD;
    }

    // ---- asks

    /** Promise 20. */
    public int ask(int h, int fee) {
        if (!town.hasHouse(h) || !isFee(fee)) {
            return BAD;
        }
        asks.weigh(h);
        return asks.bringsAt(fee);
    }

    /** Promise 21. */
    public int best(int h, int what) {
        if (!town.hasHouse(h) || what < 0 || what > 1) {
            return BAD;
        }
        asks.choose(h);
        return what == 0 ? asks.bestFee : asks.bestBrings;
    }

    /** Promise 22. */
    public int settle(int n) {
        if (n < 1 || n > MOST_ROUNDS) {
            return BAD;
        }
        for (int round = 0; round < n; round++) {
            if (!asks.changeInRound()) {
                return round;
            }
        }
        return NONE;
    }

    /** Promise 23. */
    public int settled() {
        for (int h = 0; h < town.houses; h++) {
            if (asks.wantsOther(h)) {
                return 0;
            }
        }
        return 1;
    }

    // ---- feasts

    /** Promise 24. */
    public int feast(int n, int what) {
        return fair(n, MOST_RINGING, what);
    }

    /** Promise 25. */
    public int fair(int n, int bound, int what) {
        if (n < 1 || n > MOST_TUNES || bound < 0 || bound > MOST_RINGING || what < 0 || what > 1) {
            return BAD;
        }
        feasts.choose(n, bound);
        if (feasts.tunes == 0) {
            return NONE;
        }
        return what == 0 ? feasts.cost : feasts.tunes;
    }

    // ---- round a bell

    /** Promise 26. */
    public int nearest(int t, int b, int what) {
        if (!town.hasTune(t) || !chimes.hasBell(b)) {
            return BAD;
        }
        if (what != 0 && !town.asksStroke(t, what)) {
            return BAD;
        }
        nearest.find(t, b);
        if (nearest.sum == Nearest.FAR_OFF) {
            return NONE;
        }
        return what == 0 ? nearest.sum : nearest.row[what - FIRST_STROKE];
    }

    /** Promise 27. */
    public int dear(int t) {
        if (!town.hasTune(t)) {
            return BAD;
        }
        int dearest = NONE;
        int farthest = -1;
        for (int b = 0; b < chimes.bells; b++) {
            nearest.find(t, b);
            if (nearest.sum > farthest) {
                farthest = nearest.sum;
                dearest = b;
            }
        }
        return dearest;
    }

    // ---- storms, wine

    /** Promise 28. */
    public int storm(int h, int what) {
        if (!town.hasHouse(h) || what < 0 || what > 1) {
            return BAD;
        }
        int gets = 0;
        int owned = 0;
        int cost = 0;
        for (int b = 0; b < chimes.bells; b++) {
            gets += chimes.shareOf(h, b);
            owned += chimes.owner[b] == h ? 1 : 0;
            cost += 2 * chimes.fee[b];
        }
        return what == 0 ? gets : chimes.bells * gets - cost * owned + BALANCE_BASE;
    }

    /** Promise 29. */
    public int wine(int w, int h) {
        if (w < 0 || w > MOST_WINE || !town.hasHouse(h)) {
            return BAD;
        }
        feasts.ringAll();
        int all = 0;
        for (int g = 0; g < town.houses; g++) {
            all += feasts.strokesOf(g);
        }
        return all == 0 ? NONE : pour(w, h, all);
    }

    // ---- heard

    /** Promise 30. */
    public int hear(int v) {
        if (!chimes.canBeHeard(v)) {
            return BAD;
        }
        if (chimes.heard >= MOST_STROKES) {
            return FULL;
        }
        chimes.addHeard(v);
        return chimes.heard;
    }

    /** Promise 31. */
    public int hush() {
        int had = chimes.heard;
        chimes.heard = 0;
        return had;
    }

    /** Promise 32. */
    public int fits(int t) {
        if (!town.hasTune(t)) {
            return BAD;
        }
        if (chimes.heard == 0) {
            return STATE;
        }
        return hearing.canBe(t) ? 1 : 0;
    }

    /** Promise 33. */
    public int which(int what) {
        if (what < 0 || what > 3) {
            return BAD;
        }
        if (chimes.heard == 0) {
            return STATE;
        }
        hearing.compareAll();
        if (what == 0) {
            return hearing.fitting;
        }
        if (hearing.fitting == 0) {
            return NONE;
        }
        if (what == 1) {
            return hearing.first;
        }
        return what == 2 ? hearing.refusedByFirst : hearing.refusedByEach;
    }

    // ---- images, sheets

    /** Promise 34. */
    public int keep(int k) {
        if (!isImage(k)) {
            return BAD;
        }
        int was = kept[k] ? 1 : 0;
        images[k].copyFrom(chimes);
        kept[k] = true;
        return was;
    }

    /** Promise 35. */
    public int back(int k) {
        if (!isImage(k)) {
            return BAD;
        }
        if (!kept[k]) {
            return STATE;
        }
        chimes.copyFrom(images[k]);
        return ringing.tuneTaken();
    }

    /** Promise 36. */
    public int sheet(int k, int lane, int n) {
        if (!isSheet(k) || !isLane(lane) || n > MOST_CELLS) {
            return BAD;
        }
        if (n < 0) {
            return FAULT_BASE - SIZE_FAULT;
        }
        sheets[k].renew(lane, n);
        return 1;
    }

    /** Promise 37. */
    public int lay(int k, int i, int v) {
        if (!isSheet(k)) {
            return BAD;
        }
        Sheet sheet = sheets[k];
        int found = sheet.faultAt(sheet.lane, i);
        if (found != 0) {
            return FAULT_BASE - found;
        }
        sheet.put(i, v);
        return 1;
    }

    /** Promise 38. */
    public int read(int k, int lane, int f, int n) {
        if (!isSheet(k) || !isLane(lane) || n < 0 || n > MOST_READ) {
            return BAD;
        }
        Sheet sheet = sheets[k];
        int found = 0;
        int come = 0;
        for (int i = 0; i < n; i++) {
            found = sheet.faultAt(lane, f + i);
            if (found != 0) {
                break;
            }
            if (!chimes.canBeHeard(sheet.cells[f + i])) {
                return BAD_CELL_BASE - i;
            }
            if (chimes.heard + i >= MOST_STROKES) {
                return FULL;
            }
            come++;
        }
        for (int i = 0; i < come; i++) {
            chimes.addHeard(sheet.cells[f + i]);
        }
        tornFault = found;
        return come;
    }

    /** Promise 39. */
    public int torn() {
        return tornFault;
    }

    /** Promise 40. */
    public int count(int what) {
        switch (what) {
            case 0: return chimes.bells;
            case 1: return town.tunes;
            case 2: return chimes.feudPairs();
            case 3: return chimes.heard;
            case 4: return (kept[0] ? 1 : 0) + (kept[1] ? 1 : 0);
            case 5: return tape.length;
            case 6: return sheets[0].isNothing() ? NONE : sheets[0].size;
            default: return BAD;
        }
    }

    // ---- what the calls share

    private static boolean isFee(int v) {
        return v >= 0 && v <= MOST_FEE;
    }

    private static boolean isImage(int k) {
        return k >= 0 && k < IMAGES;
    }

    private static boolean isSheet(int k) {
        return k >= 0 && k < SHEETS;
    }

    private static boolean isLane(int lane) {
        return lane >= 0 && lane < LANES;
    }

    /** What a house gets of w, where all (above 0) strokes ring; feasts has rung all tunes. */
    private int pour(int w, int h, int all) {
        int product = w * feasts.strokesOf(h);
        int rest = product % all;
        int left = w;
        int ahead = 0;
        for (int g = 0; g < town.houses; g++) {
            int other = w * feasts.strokesOf(g);
            left -= other / all;
            int otherRest = other % all;
            if (otherRest > rest || (otherRest == rest && g < h)) {
                ahead++;
            }
        }
        return product / all + (ahead < left ? 1 : 0);
    }

    /** The bytes fed, and the token that was read of them last. */
    private static final class Tape {
        static final int END = 0;
        static final int NAME = 1;
        static final int NUMBER = 2;
        static final int SEMICOLON = 3;
        static final int NO_TOKEN = 4;

        static final int MOST_FIGURES = 2;

        final byte[] bytes = new byte[TAPE_BYTES];
        int length;
        int at;
        int kind;
        int start;
        int number;

        void append(long v) {
            for (int i = FED_BYTES - 1; i >= 0 && length < TAPE_BYTES; i--) {
                bytes[length] = (byte) (v >> (8 * i));
                length++;
            }
        }

        void rewind() {
            at = 0;
        }

        void readToken() {
            while (at < length && bytes[at] == ' ') {
                at++;
            }
            start = at;
            number = 0;
            while (at < length && bytes[at] >= 'a' && bytes[at] <= 'z') {
                at++;
            }
            if (at > start) {
                kind = NAME;
                return;
            }
            while (at < length && bytes[at] >= '0' && bytes[at] <= '9') {
                number = number * 10 + bytes[at] - '0';
                at++;
            }
            if (at > start) {
                kind = at - start > MOST_FIGURES ? NO_TOKEN : NUMBER;
                return;
            }
            if (at >= length) {
                kind = END;
                return;
            }
            kind = bytes[at] == ';' ? SEMICOLON : NO_TOKEN;
            at++;
        }

        boolean isName(String word) {
            if (kind != NAME || at - start != word.length()) {
                return false;
            }
            for (int i = 0; i < word.length(); i++) {
                if (bytes[start + i] != word.charAt(i)) {
                    return false;
                }
            }
            return true;
        }
    }

    /**
     * Reads the tape into a draft. Its methods answer whether there was no fault so far; each
     * looks at a token in full before it reads the next one, so that the first fault met is told.
     */
    private static final class Reader {
        static final int NOT_A_TOKEN = 1;
        static final int OUT_OF_PLACE = 2;
        static final int OUT_OF_BOUNDS = 3;
        static final int AGAIN = 4;
        static final int TOO_MANY = 5;
        static final int NOT_THERE = 6;

        final Tape tape;
        final Town draft = new Town();
        boolean housesTold;
        boolean gapTold;
        int lines;
        int fault;
        int place;

        Reader(Tape tape) {
            this.tape = tape;
        }

        boolean readAll() {
            draft.empty();
            housesTold = false;
            gapTold = false;
            lines = 0;
            fault = 0;
            tape.rewind();
            boolean isFine = advance();
            while (isFine && tape.kind != Tape.END && lines < TAPE_BYTES) {
                isFine = readLine();
                lines++;
            }
            return isFine && (draft.isWhole() || refuse(NOT_THERE));
        }

        private boolean readLine() {
            if (tape.isName("houses")) {
                return readHouses();
            }
            if (tape.isName("gap")) {
                return readGap();
            }
            if (tape.isName("bell")) {
                return readBell();
            }
            if (tape.isName("tune")) {
                return readTune();
            }
            return tape.isName("feud") ? readFeud() : refuse(OUT_OF_PLACE);
        }

        private boolean readHouses() {
            if (housesTold) {
                return refuse(AGAIN);
            }
            housesTold = true;
            if (!nextNumber(1, MOST_HOUSES)) {
                return false;
            }
            draft.houses = tape.number;
            return advance() && endLine();
        }

        private boolean readGap() {
            if (gapTold) {
                return refuse(AGAIN);
            }
            gapTold = true;
            if (!nextNumber(0, MOST_GAP)) {
                return false;
            }
            draft.gap = tape.number;
            return advance() && endLine();
        }

        private boolean readBell() {
            Chimes chimes = draft.chimes;
            if (chimes.bells >= MOST_BELLS) {
                return refuse(TOO_MANY);
            }
            int b = chimes.bells;
            chimes.half[b] = NONE;
            chimes.shut[b] = 0;
            if (!nextNumber(0, MOST_HOUSES - 1)) {
                return false;
            }
            chimes.owner[b] = tape.number;
            if (!nextNumber(0, MOST_FEE)) {
                return false;
            }
            chimes.fee[b] = tape.number;
            if (!nextNumber(0, MOST_FLAT)) {
                return false;
            }
            chimes.flat[b] = tape.number;
            chimes.bells++;
            return advance() && readWiths(chimes, b) && endLine();
        }

        private boolean readWiths(Chimes chimes, int b) {
            // Each with stands once at most, so of three the third one is refused.
            for (int i = 0; i < 3; i++) {
                boolean isHalf = tape.isName("half");
                if (!isHalf && !tape.isName("shut")) {
                    return true;
                }
                if (isHalf ? chimes.half[b] != NONE : chimes.shut[b] != 0) {
                    return refuse(AGAIN);
                }
                if (!isHalf) {
                    chimes.shut[b] = 1;
                } else if (!nextNumber(0, MOST_HOUSES - 1)) {
                    return false;
                } else if (tape.number == chimes.owner[b]) {
                    return refuse(AGAIN);
                } else {
                    chimes.half[b] = tape.number;
                }
                if (!advance()) {
                    return false;
                }
            }
            return true;
        }

        private boolean readTune() {
            if (draft.tunes >= MOST_TUNES) {
                return refuse(TOO_MANY);
            }
            int t = draft.tunes;
            if (!nextNumber(0, MOST_WORTH)) {
                return false;
            }
            draft.worth[t] = tape.number;
            draft.tunes++;
            return advance() && readStrokes(t) && endLine();
        }

        /** The token that has been read last must be the first stroke: a tune has one at least. */
        private boolean readStrokes(int t) {
            for (int i = 0; i <= MOST_STROKES; i++) {
                if (i > 0 && tape.kind != Tape.NUMBER) {
                    return true;
                }
                int found = faultOfNumber(0, MOST_BELLS - 1);
                if (found != 0) {
                    return refuse(found);
                }
                if (i >= MOST_STROKES) {
                    return refuse(TOO_MANY);
                }
                draft.strokes[t][i] = tape.number;
                draft.length[t] = i + 1;
                if (!advance()) {
                    return false;
                }
            }
            return true;
        }

        private boolean readFeud() {
            if (!nextNumber(0, MOST_HOUSES - 1)) {
                return false;
            }
            int a = tape.number;
            if (!nextNumber(0, MOST_HOUSES - 1)) {
                return false;
            }
            if (tape.number == a) {
                return refuse(AGAIN);
            }
            draft.chimes.setFoes(a, tape.number, true);
            return advance() && endLine();
        }

        private boolean endLine() {
            return tape.kind == Tape.SEMICOLON ? advance() : refuse(OUT_OF_PLACE);
        }

        private boolean nextNumber(int least, int most) {
            tape.readToken();
            int found = faultOfNumber(least, most);
            return found == 0 || refuse(found);
        }

        /** What is wrong with the token read last, where a number within these bounds must stand; 0, if nothing. */
        private int faultOfNumber(int least, int most) {
            if (tape.kind == Tape.NO_TOKEN) {
                return NOT_A_TOKEN;
            }
            if (tape.kind != Tape.NUMBER) {
                return OUT_OF_PLACE;
            }
            return tape.number < least || tape.number > most ? OUT_OF_BOUNDS : 0;
        }

        private boolean advance() {
            tape.readToken();
            return tape.kind != Tape.NO_TOKEN || refuse(NOT_A_TOKEN);
        }

        /** Always false: there is a fault now, at the token that was read last. */
        private boolean refuse(int found) {
            fault = found;
            place = tape.start;
            return false;
        }
    }

    /** What an image keeps: the bells, the feuds, what was heard. */
    private static final class Chimes {
        int bells;
        final int[] owner = new int[MOST_BELLS];
        final int[] fee = new int[MOST_BELLS];
        final int[] flat = new int[MOST_BELLS];
        final int[] shut = new int[MOST_BELLS];
        final int[] half = new int[MOST_BELLS];
        final int[] foes = new int[MOST_HOUSES];
        int heard;
        final int[] strokes = new int[MOST_STROKES];

        void empty() {
            bells = 0;
            heard = 0;
            Arrays.fill(foes, 0);
        }

        void copyFrom(Chimes other) {
            bells = other.bells;
            System.arraycopy(other.owner, 0, owner, 0, MOST_BELLS);
            System.arraycopy(other.fee, 0, fee, 0, MOST_BELLS);
            System.arraycopy(other.flat, 0, flat, 0, MOST_BELLS);
            System.arraycopy(other.shut, 0, shut, 0, MOST_BELLS);
            System.arraycopy(other.half, 0, half, 0, MOST_BELLS);
            System.arraycopy(other.foes, 0, foes, 0, MOST_HOUSES);
            heard = other.heard;
            System.arraycopy(other.strokes, 0, strokes, 0, MOST_STROKES);
        }

        boolean hasBell(int b) {
            return b >= 0 && b < bells;
        }

        boolean areFoes(int a, int b) {
            return (foes[a] & (1 << b)) != 0;
        }

        void setFoes(int a, int b, boolean are) {
            foes[a] = are ? foes[a] | (1 << b) : foes[a] & ~(1 << b);
            foes[b] = are ? foes[b] | (1 << a) : foes[b] & ~(1 << a);
        }

        int feudPairs() {
            int ends = 0;
            for (int h = 0; h < MOST_HOUSES; h++) {
                ends += Integer.bitCount(foes[h]);
            }
            return ends / 2;
        }

        /** In how many halves of its fee a house has part in a stroke of a bell. */
        int partsOf(int h, int b) {
            if (owner[b] == h) {
                return half[b] == NONE ? 2 : 1;
            }
            return half[b] == h ? 1 : 0;
        }

        int shareOf(int h, int b) {
            return partsOf(h, b) * fee[b];
        }

        boolean canBeHeard(int v) {
            return v == NONE || hasBell(v);
        }

        void addHeard(int v) {
            if (heard < MOST_STROKES) {
                strokes[heard] = v;
                heard++;
            }
        }
    }

    /** All that a text tells. */
    private static final class Town {
        int houses = HOUSES_AT_FIRST;
        int gap = GAP_AT_FIRST;
        int tunes;
        final int[] worth = new int[MOST_TUNES];
        final int[] length = new int[MOST_TUNES];
        final int[][] strokes = new int[MOST_TUNES][MOST_STROKES];
        final Chimes chimes = new Chimes();

        void empty() {
            houses = HOUSES_AT_FIRST;
            gap = GAP_AT_FIRST;
            tunes = 0;
            chimes.empty();
        }

        void copyFrom(Town other) {
            houses = other.houses;
            gap = other.gap;
            tunes = other.tunes;
            System.arraycopy(other.worth, 0, worth, 0, MOST_TUNES);
            System.arraycopy(other.length, 0, length, 0, MOST_TUNES);
            for (int t = 0; t < MOST_TUNES; t++) {
                System.arraycopy(other.strokes[t], 0, strokes[t], 0, MOST_STROKES);
            }
            chimes.copyFrom(other.chimes);
        }

        boolean hasHouse(int h) {
            return h >= 0 && h < houses;
        }

        boolean hasTune(int t) {
            return t >= 0 && t < tunes;
        }

        boolean asksStroke(int t, int what) {
            return what >= FIRST_STROKE && what < FIRST_STROKE + length[t];
        }

        /** Whether all houses and bells that it speaks of are there. */
        boolean isWhole() {
            for (int b = 0; b < chimes.bells; b++) {
                if (!hasHouse(chimes.owner[b]) || (chimes.half[b] != NONE && !hasHouse(chimes.half[b]))) {
                    return false;
                }
            }
            for (int h = houses; h < MOST_HOUSES; h++) {
                if (chimes.foes[h] != 0) {
                    return false;
                }
            }
            for (int t = 0; t < tunes; t++) {
                for (int i = 0; i < length[t]; i++) {
                    if (!chimes.hasBell(strokes[t][i])) {
                        return false;
                    }
                }
            }
            return true;
        }
    }

    /** A tune that is rung now. */
    private static final class Ringing {
        final Town town;
        final Chimes chimes;
        int cost;
        int flats;
        int silent;
        int value;

        Ringing(Town town) {
            this.town = town;
            this.chimes = town.chimes;
        }

        void play(int t) {
            cost = 0;
            flats = 0;
            silent = 0;
            int gaps = 0;
            int foesOfLast = 0;
            for (int i = 0; i < town.length[t]; i++) {
                int b = town.strokes[t][i];
                int owner = chimes.owner[b];
                if (chimes.shut[b] != 0 || (foesOfLast & (1 << owner)) != 0) {
                    silent |= 1 << i;
                    gaps += town.gap;
                } else {
                    cost += chimes.fee[b];
                    flats += chimes.flat[b];
                    foesOfLast = chimes.foes[owner];
                }
            }
            value = town.worth[t] - cost - flats - gaps;
        }

        /** Whether stroke i of the tune played last rang. */
        boolean rang(int i) {
            return (silent & (1 << i)) == 0;
        }

        int tuneTaken() {
            int taken = NONE;
            int greatest = 0;
            for (int t = 0; t < town.tunes; t++) {
                play(t);
                if (value > greatest) {
                    greatest = value;
                    taken = t;
                }
            }
            return taken;
        }

        int shareOf(int h, int t) {
            play(t);
            int gets = 0;
            for (int i = 0; i < town.length[t]; i++) {
                if (rang(i)) {
                    gets += chimes.shareOf(h, town.strokes[t][i]);
                }
            }
            return gets;
        }

        int wageOf(int h) {
            int t = tuneTaken();
            return t == NONE ? 0 : shareOf(h, t);
        }
    }

    /**
     * What a house can ask. Which strokes ring does not hang on fees, so each tune is rung once
     * a house, and what it is worth and brings at any fee follows from four sums.
     */
    private static final class Asks {
        final Town town;
        final Chimes chimes;
        final Ringing ringing;
        final int[] valueAtNone = new int[MOST_TUNES];
        final int[] ownStrokes = new int[MOST_TUNES];
        final int[] ownParts = new int[MOST_TUNES];
        final int[] fromOthers = new int[MOST_TUNES];
        int bestFee;
        int bestBrings;

        Asks(Town town, Ringing ringing) {
            this.town = town;
            this.chimes = town.chimes;
            this.ringing = ringing;
        }

        void weigh(int h) {
            for (int t = 0; t < town.tunes; t++) {
                weighTune(h, t);
            }
        }

        private void weighTune(int h, int t) {
            ringing.play(t);
            valueAtNone[t] = ringing.value;
            ownStrokes[t] = 0;
            ownParts[t] = 0;
            fromOthers[t] = 0;
            for (int i = 0; i < town.length[t]; i++) {
                if (!ringing.rang(i)) {
                    continue;
                }
                int b = town.strokes[t][i];
                int parts = chimes.partsOf(h, b);
                if (chimes.owner[b] == h) {
                    valueAtNone[t] += chimes.fee[b];
                    ownStrokes[t]++;
                    ownParts[t] += parts;
                } else {
                    fromOthers[t] += parts * chimes.fee[b];
                }
            }
        }

        /** What the house weighed last gets, if all its bells have that fee. */
        int bringsAt(int fee) {
            int brings = 0;
            int greatest = 0;
            for (int t = 0; t < town.tunes; t++) {
                int value = valueAtNone[t] - fee * ownStrokes[t];
                if (value > greatest) {
                    greatest = value;
                    brings = fee * ownParts[t] + fromOthers[t];
                }
            }
            return brings;
        }

        void choose(int h) {
            weigh(h);
            bestFee = 0;
            bestBrings = bringsAt(0);
            for (int fee = 1; fee <= MOST_FEE; fee++) {
                int brings = bringsAt(fee);
                if (brings > bestBrings) {
                    bestBrings = brings;
                    bestFee = fee;
                }
            }
        }

        boolean wantsOther(int h) {
            choose(h);
            return bestBrings > ringing.wageOf(h);
        }

        /** One round of settling: whether it changed something. */
        boolean changeInRound() {
            boolean isChanged = false;
            for (int h = 0; h < town.houses; h++) {
                if (wantsOther(h)) {
                    setFees(h, bestFee);
                    isChanged = true;
                }
            }
            return isChanged;
        }

        private void setFees(int h, int fee) {
            for (int b = 0; b < chimes.bells; b++) {
                if (chimes.owner[b] == h) {
                    chimes.fee[b] = fee;
                }
            }
        }
    }

    /** All tunes rung, each by itself, and the cheapest of them taken together. */
    private static final class Feasts {
        final Town town;
        final Ringing ringing;
        final int[] costs = new int[MOST_TUNES];
        final int[][] rings = new int[MOST_TUNES][MOST_HOUSES];
        int cost;
        int tunes;

        Feasts(Town town, Ringing ringing) {
            this.town = town;
            this.ringing = ringing;
        }

        void ringAll() {
            for (int t = 0; t < town.tunes; t++) {
                ringing.play(t);
                costs[t] = ringing.cost;
                Arrays.fill(rings[t], 0);
                for (int i = 0; i < town.length[t]; i++) {
                    if (ringing.rang(i)) {
                        rings[t][town.chimes.owner[town.strokes[t][i]]]++;
                    }
                }
            }
        }

        /** The strokes of a house that ring, of all tunes. */
        int strokesOf(int h) {
            return strokesIn((1 << town.tunes) - 1, h);
        }

        /** The tunes of the cheapest feast by bits, with its cost; 0, if there is none. */
        void choose(int n, int bound) {
            ringAll();
            tunes = 0;
            // Bits go upward, so of several feasts as cheap the least bits stay.
            for (int bits = 1; bits < 1 << town.tunes; bits++) {
                if (Integer.bitCount(bits) == n && isWithin(bits, bound)) {
                    int sum = costOf(bits);
                    if (tunes == 0 || sum < cost) {
                        tunes = bits;
                        cost = sum;
                    }
                }
            }
        }

        private boolean isWithin(int bits, int bound) {
            for (int h = 0; h < town.houses; h++) {
                if (strokesIn(bits, h) > bound) {
                    return false;
                }
            }
            return true;
        }

        private int strokesIn(int bits, int h) {
            int sum = 0;
            for (int t = 0; t < town.tunes; t++) {
                if ((bits & (1 << t)) != 0) {
                    sum += rings[t][h];
                }
            }
            return sum;
        }

        private int costOf(int bits) {
            int sum = 0;
            for (int t = 0; t < town.tunes; t++) {
                if ((bits & (1 << t)) != 0) {
                    sum += costs[t];
                }
            }
            return sum;
        }
    }

    /** The row of strokes that is nearest to a tune and does without a bell. */
    private static final class Nearest {
        /** Farther than any row can be, and small enough to be added to. */
        static final int FAR_OFF = 1000000;

        final Town town;
        final Chimes chimes;
        /** By stroke and bell: how far the row is at least from that stroke on, if it has that bell there. */
        final int[][] far = new int[MOST_STROKES][MOST_BELLS];
        final int[] row = new int[MOST_STROKES];
        int sum;

        Nearest(Town town) {
            this.town = town;
            this.chimes = town.chimes;
        }

        /** The sum is FAR_OFF, if there is no such row. */
        void find(int t, int without) {
            int length = town.length[t];
            for (int i = length - 1; i >= 0; i--) {
                for (int b = 0; b < chimes.bells; b++) {
                    far[i][b] = farFrom(t, i, b, without);
                }
            }
            int first = leastBehind(0, NONE);
            sum = first == NONE ? FAR_OFF : far[0][first];
            row[0] = first;
            for (int i = 1; i < length; i++) {
                row[i] = leastBehind(i, row[i - 1]);
            }
        }

        private int farFrom(int t, int i, int b, int without) {
            if (b == without || chimes.shut[b] != 0) {
                return FAR_OFF;
            }
            int here = Math.abs(b - town.strokes[t][i]);
            if (i + 1 >= town.length[t]) {
                return here;
            }
            int next = leastBehind(i + 1, b);
            return next == NONE ? FAR_OFF : here + far[i + 1][next];
        }

        /** The first bell with the least way to go at stroke i, behind a bell (or NONE); NONE, if none can ring. */
        private int leastBehind(int i, int before) {
            int least = NONE;
            for (int b = 0; b < chimes.bells; b++) {
                boolean canRing = before == NONE || !chimes.areFoes(chimes.owner[b], chimes.owner[before]);
                if (canRing && far[i][b] < (least == NONE ? FAR_OFF : far[i][least])) {
                    least = b;
                }
            }
            return least;
        }
    }

    /** What was heard, set against the tunes. */
    private static final class Hearing {
        final Town town;
        final Chimes chimes;
        int fitting;
        int first;
        int refusedByFirst;
        int refusedByEach;

        Hearing(Town town) {
            this.town = town;
            this.chimes = town.chimes;
        }

        boolean canBe(int t) {
            if (chimes.heard != town.length[t]) {
                return false;
            }
            int rang = 0;
            for (int i = 0; i < chimes.heard; i++) {
                int b = chimes.strokes[i];
                if (b != NONE && b != town.strokes[t][i]) {
                    return false;
                }
                rang |= b == NONE ? 0 : 1 << chimes.owner[b];
            }
            return (rang & refusedBy(t)) == 0;
        }

        /** What is told of the first one and of each one holds where there is one that fits. */
        void compareAll() {
            fitting = 0;
            for (int t = 0; t < town.tunes; t++) {
                if (canBe(t)) {
                    addFitting(t);
                }
            }
        }

        private void addFitting(int t) {
            int refused = refusedBy(t);
            if (fitting == 0) {
                first = t;
                refusedByFirst = refused;
                refusedByEach = refused;
            }
            refusedByEach &= refused;
            fitting++;
        }

        /** The houses in gaps, by bits; what was heard is as long as the tune. */
        private int refusedBy(int t) {
            int refused = 0;
            for (int i = 0; i < chimes.heard; i++) {
                if (chimes.strokes[i] == NONE) {
                    refused |= 1 << chimes.owner[town.strokes[t][i]];
                }
            }
            return refused;
        }
    }

    /** A row of bytes, shorts or ints, or nothing. */
    private static final class Sheet {
        static final int NOTHING = -1;
        static final int BYTES = 0;
        static final int SHORTS = 1;

        int lane = NOTHING;
        int size;
        final int[] cells = new int[MOST_CELLS];

        boolean isNothing() {
            return lane == NOTHING;
        }

        void renew(int newLane, int n) {
            lane = newLane;
            size = n;
            Arrays.fill(cells, 0);
        }

        /** What the machine finds when cell i is reached for in a row of that lane; 0, if nothing. */
        int faultAt(int asLane, int i) {
            if (isNothing()) {
                return NULL_FAULT;
            }
            if (asLane != lane) {
                return CAST_FAULT;
            }
            return i < 0 || i >= size ? INDEX_FAULT : 0;
        }

        void put(int i, int v) {
            if (lane == BYTES) {
                cells[i] = (byte) v;
            } else if (lane == SHORTS) {
                cells[i] = (short) v;
            } else {
                cells[i] = v;
            }
        }
    }
}
