import java.nio.charset.StandardCharsets;
import java.util.Random;

/** Promises 1 to 40: random runs of calls, each answer set against the model's. */
public final class ModelTest {
    private static final Check check = new Check("ModelTest");
    private static final int RUNS = 1000;
    private static final int CALLS = 300;

    private final Random random;
    private final ChimeShares x = new ChimeShares();
    private final Model m = new Model();

    private ModelTest(long seed) {
        random = new Random(seed);
    }

    public static void main(String[] args) {
        for (int run = 0; run < RUNS; run++) {
            new ModelTest(run).play(run);
        }
        check.close();
    }

    private void play(int run) {
        for (int i = 0; i < CALLS; i++) {
            if (i == 0 || random.nextInt(60) == 0) {
                tell(run);
            } else {
                call("run " + run + ", call " + i + ": ");
            }
            if (i % 100 == 99) {
                compareAll("run " + run + " behind call " + i + ": ");
            }
        }
    }

    private void tell(int run) {
        int kind = random.nextInt(6);
        String text = kind == 0 ? spoil(writeText()) : kind == 1 ? sketch() : writeText();
        byte[] bytes = text.getBytes(StandardCharsets.ISO_8859_1);
        x.end(0);
        m.end(0);
        for (int at = 0; at < bytes.length; at += 8) {
            long v = 0;
            for (int i = 0; i < 8; i++) {
                v = v << 8 | (at + i < bytes.length ? bytes[at + i] & 255 : random.nextInt(256));
            }
            check.due("run " + run + ": feed(" + v + ")", x.feed(v), m.feed(v));
        }
        check.due("run " + run + ": end", x.end(bytes.length), m.end(bytes.length));
        check.due("run " + run + ": text() of '" + text + "'", x.text(), m.text());
        check.due("run " + run + ": fault() of '" + text + "'", x.fault(), m.fault());
    }

    private String writeText() {
        StringBuilder s = new StringBuilder();
        int houses = 1 + random.nextInt(6);
        int bells = 1 + random.nextInt(random.nextBoolean() ? 4 : 12);
        s.append("houses ").append(houses).append(';');
        if (random.nextBoolean()) {
            s.append("gap ").append(random.nextInt(10)).append(';');
        }
        int most = random.nextBoolean() ? 21 : 4;
        for (int b = 0; b < bells; b++) {
            int owner = random.nextInt(houses);
            s.append("bell ").append(owner).append(' ').append(random.nextInt(most)).append(' ').append(random.nextInt(most > 10 ? 10 : 2));
            int half = random.nextInt(houses);
            if (half != owner && random.nextInt(3) == 0) {
                s.append(" half ").append(half);
            }
            if (random.nextInt(6) == 0) {
                s.append(" shut");
            }
            s.append(';');
        }
        for (int f = random.nextInt(4); f > 0 && houses > 1; f--) {
            int a = random.nextInt(houses);
            s.append("feud ").append(a).append(' ').append((a + 1 + random.nextInt(houses - 1)) % houses).append(';');
        }
        for (int t = random.nextInt(7); t > 0 && s.length() < 285; t--) {
            s.append("tune ").append(random.nextInt(100));
            int strokes = 1 + random.nextInt(random.nextInt(3) == 0 ? 12 : 3);
            for (int i = 0; i < strokes && s.length() < 310; i++) {
                s.append(' ').append(random.nextInt(bells));
            }
            s.append(';');
        }
        return s.substring(0, Math.min(320, s.length()));
    }

    private String spoil(String text) {
        String[] bits = {" ", ";", "0", "1", "12", "99", "half 1", "shut", "gap 1;", "houses 6;", "bell 0 0 0;", "tune 1 0;",
            "feud 0 1;", "a", ",", "\u00ff", "\u0000", "feud", "6", "tune"};
        StringBuilder s = new StringBuilder(text);
        for (int n = 1 + random.nextInt(3); n > 0; n--) {
            int at = random.nextInt(s.length() + 1);
            int kind = random.nextInt(4);
            if (kind == 0) {
                s.insert(at, bits[random.nextInt(bits.length)]);
            } else if (kind == 1) {
                s.append(bits[random.nextInt(bits.length)]);
            } else if (kind == 2 && at < s.length()) {
                s.deleteCharAt(at);
            } else {
                s.setLength(random.nextInt(8) == 0 ? at : s.length());
            }
        }
        return s.substring(0, Math.min(320, s.length()));
    }

    /** Tokens in about the order of a text. */
    private String sketch() {
        String[] lines = {"houses #", "gap #", "bell # # #", "bell # # # half #", "bell # # # shut", "tune # # #",
            "tune # # # # # # # # # # # # #", "feud # #", "bell 0 # # half # shut", "tune # #"};
        String[] ends = {";", ";", ";", ";", ";", ";", ";", ";", " #;", "", "half #;", " shut;", "  ;  ", ";;", "!"};
        StringBuilder s = new StringBuilder();
        int most = random.nextInt(4) == 0 ? 13 : 4;
        for (int n = random.nextInt(9); n >= 0; n--) {
            String line = lines[random.nextInt(lines.length)] + ends[random.nextInt(random.nextBoolean() ? 8 : ends.length)];
            int again = random.nextInt(5) == 0 ? 13 : 1;
            for (int i = 0; i < again; i++) {
                for (char c : line.toCharArray()) {
                    s.append(c == '#' ? "" + random.nextInt(random.nextInt(30) == 0 ? 200 : most) : "" + c);
                }
            }
        }
        return s.substring(0, Math.min(320, s.length()));
    }

    /** A number from about 0 to most, now and then one that is none. */
    private int pick(int most) {
        int[] odd = {-1, -4, most + 1, Integer.MIN_VALUE, Integer.MAX_VALUE, -5, most + 2};
        return random.nextInt(12) == 0 ? odd[random.nextInt(odd.length)] : random.nextInt(most + 1);
    }

    private int house() {
        return pick(Math.max(0, x.rule(0) - 1));
    }

    private int someBell() {
        return pick(Math.max(0, x.count(0) - 1));
    }

    private int someTune() {
        return pick(Math.max(0, x.count(1) - 1));
    }

    private void call(String where) {
        int kind = random.nextInt(36);
        if (kind < 9) {
            change(where, kind);
        } else if (kind < 22) {
            ask(where, kind);
        } else {
            hearOrRead(where, kind);
        }
    }

    private void change(String where, int kind) {
        int b = someBell(), h = house(), g = house(), v = pick(20), seed = random.nextInt();
        boolean is = random.nextInt(4) == 0;
        switch (kind) {
            case 0, 1 -> check.due(where + "fee(" + b + ", " + v + ")", x.fee(b, v), m.fee(b, v));
            case 2 -> check.due(where + "shut(" + b + ", " + is + ")", x.shut(b, is), m.shut(b, is));
            case 3, 4 -> check.due(where + "sell(" + b + ", " + h + ")", x.sell(b, h), m.sell(b, h));
            case 5, 6 -> check.due(where + "half(" + b + ", " + h + ")", x.half(b, h), m.half(b, h));
            case 7 -> check.due(where + "feud(" + h + ", " + g + ", " + is + ")", x.feud(h, g, is), m.feud(h, g, is));
            default -> {
                if (random.nextInt(4) == 0) {
                    check.due(where + "feuding(" + seed + ")", x.feuding(seed), m.feuding(seed));
                }
            }
        }
    }

    private void ask(String where, int kind) {
        int b = someBell(), h = house(), t = someTune(), what = pick(1);
        switch (kind) {
            case 9 -> due(where, "ring", x.ring(t, kind = pick(3)), m.ring(t, kind), t, kind);
            case 10 -> due(where, "taken", x.taken(), m.taken());
            case 11 -> due(where, "gets", x.gets(h, t), m.gets(h, t), h, t);
            case 12 -> due(where, "wage", x.wage(h), m.wage(h), h);
            case 13 -> due(where, "ask", x.ask(h, kind = pick(20)), m.ask(h, kind), h, kind);
            case 14 -> due(where, "best", x.best(h, what), m.best(h, what), h, what);
            case 15 -> {
                int n = 1 + random.nextInt(3);
                if (random.nextInt(5) == 0) {
                    n = pick(31);
                }
                due(where, "settle", x.settle(n), m.settle(n), n);
                due(where, "settled", x.settled(), m.settled());
            }
            case 16 -> due(where, "feast", x.feast(kind = pick(6), what), m.feast(kind, what), kind, what);
            case 17 -> {
                int bound = random.nextInt(3) == 0 ? pick(72) : pick(6);
                due(where, "fair", x.fair(kind = pick(6), bound, what), m.fair(kind, bound, what), kind, bound, what);
            }
            case 18 -> {
                for (int w = -1; w < 24; w++) {
                    due(where, "nearest", x.nearest(t, b, w), m.nearest(t, b, w), t, b, w);
                }
            }
            case 19 -> due(where, "dear", x.dear(t), m.dear(t), t);
            case 20 -> due(where, "storm", x.storm(h, what), m.storm(h, what), h, what);
            default -> due(where, "wine", x.wine(kind = pick(random.nextBoolean() ? 30 : 999), h), m.wine(kind, h), kind, h);
        }
    }

    private void hearOrRead(String where, int kind) {
        int k = pick(1), row = pick(3), lane = pick(2), n = pick(random.nextBoolean() ? 4 : 12);
        int v = random.nextInt(3) == 0 ? -4 : someBell();
        int t = someTune();
        switch (kind) {
            case 22, 23 -> due(where, "hear", x.hear(v), m.hear(v), v);
            case 24 -> hearTune(where, t);
            case 25 -> due(where, "fits", x.fits(t), m.fits(t), t);
            case 26 -> {
                for (int what = -1; what < 5; what++) {
                    due(where, "which", x.which(what), m.which(what), what);
                }
            }
            case 27 -> due(where, "keep", x.keep(k), m.keep(k), k);
            case 28 -> due(where, "back", x.back(k), m.back(k), k);
            case 29 -> {
                int size = random.nextInt(4) == 0 ? pick(41) : pick(14);
                due(where, "sheet", x.sheet(row, lane, size), m.sheet(row, lane, size), row, lane, size);
            }
            case 30, 31 -> {
                int i = pick(14);
                int cell = random.nextInt(8) == 0 ? random.nextInt() : v + 256 * random.nextInt(2) + 65536 * random.nextInt(2);
                due(where, "lay", x.lay(row, i, cell), m.lay(row, i, cell), row, i, cell);
            }
            case 32, 33, 34 -> {
                int f = pick(14);
                due(where, "read", x.read(row, lane, f, n), m.read(row, lane, f, n), row, lane, f, n);
                due(where, "torn", x.torn(), m.torn());
            }
            default -> {
                long fed = random.nextLong();
                due(where, "feed", x.feed(fed), m.feed(fed));
                due(where, "hush", x.hush(), m.hush());
            }
        }
    }

    /** A tune is heard in which some houses refuse. */
    private void hearTune(String where, int t) {
        due(where, "hush", x.hush(), m.hush());
        int refusing = random.nextInt(64) & random.nextInt(64);
        for (int i = 0; i < x.tune(t, 1); i++) {
            int b = x.tune(t, 10 + i);
            int v = (refusing >> x.bell(b, 0) & 1) == 1 || random.nextInt(40) == 0 ? -4 : b;
            due(where, "hear", x.hear(v), m.hear(v), v);
        }
        due(where, "fits", x.fits(t), m.fits(t), t);
    }

    private void compareAll(String where) {
        for (int what = -1; what <= 7; what++) {
            due(where, "count", x.count(what), m.count(what), what);
        }
        for (int what = -1; what <= 2; what++) {
            due(where, "rule", x.rule(what), m.rule(what), what);
        }
        for (int b = -1; b <= 12; b++) {
            for (int what = -1; what <= 5; what++) {
                due(where, "bell", x.bell(b, what), m.bell(b, what), b, what);
            }
        }
        for (int t = -1; t <= 6; t++) {
            for (int what = -1; what <= 23; what++) {
                due(where, "tune", x.tune(t, what), m.tune(t, what), t, what);
            }
        }
        for (int h = -1; h <= 6; h++) {
            due(where, "feuds", x.feuds(h), m.feuds(h), h);
        }
    }

    private static void due(String where, String name, int got, int want, int... args) {
        if (got != want) {
            check.due(where + name + java.util.Arrays.toString(args), got, want);
        } else {
            check.due(name, got, want);
        }
    }
}
