import com.sun.management.ThreadMXBean;
import java.lang.management.ManagementFactory;
import java.lang.reflect.Constructor;
import java.lang.reflect.Field;
import java.lang.reflect.Method;
import java.lang.reflect.Modifier;
import java.nio.charset.StandardCharsets;
import java.nio.file.Files;
import java.nio.file.Path;
import java.util.Arrays;
import java.util.List;
import java.util.Set;
import java.util.TreeSet;
import java.util.regex.Matcher;
import java.util.regex.Pattern;

/** The rules of LANGUAGE.md that can be looked at: the face, words, lengths, what calls make; no call throws. */
public final class LanguageTest {
    private static final Check check = new Check("LanguageTest");
    private static final List<String> FACE = List.of(
        "feed(long)", "end(int)", "text()", "fault()", "rule(int)", "bell(int,int)", "tune(int,int)", "feuds(int)",
        "fee(int,int)", "shut(int,boolean)", "sell(int,int)", "half(int,int)", "feud(int,int,boolean)", "feuding(int)",
        "ring(int,int)", "taken()", "gets(int,int)", "wage(int)", "ask(int,int)", "best(int,int)", "settle(int)",
        "settled()", "feast(int,int)", "fair(int,int,int)", "nearest(int,int,int)", "dear(int)", "storm(int,int)",
        "wine(int,int)", "hear(int)", "hush()", "fits(int)", "which(int)", "keep(int)", "back(int)",
        "sheet(int,int,int)", "lay(int,int,int)", "read(int,int,int,int)", "torn()", "count(int)");

    public static void main(String[] args) throws Exception {
        face();
        nestedClasses();
        source();
        nothingThrown();
        nothingMade();
        check.close();
    }

    private static String signature(Method m) {
        StringBuilder s = new StringBuilder(m.getName()).append('(');
        for (Class<?> type : m.getParameterTypes()) {
            s.append(s.charAt(s.length() - 1) == '(' ? "" : ",").append(type.getSimpleName());
        }
        return s.append(')').toString();
    }

    private static void face() {
        Class<?> c = ChimeShares.class;
        check.isTrue("public and final", Modifier.isPublic(c.getModifiers()) && Modifier.isFinal(c.getModifiers()));
        Set<String> found = new TreeSet<>();
        for (Method m : c.getDeclaredMethods()) {
            if (!Modifier.isPrivate(m.getModifiers())) {
                found.add(signature(m));
                check.isTrue(m + " answers an int", m.getReturnType() == int.class && !Modifier.isStatic(m.getModifiers()));
            }
        }
        check.isTrue("the face: " + found, found.equals(new TreeSet<>(FACE)));
        for (Field f : c.getDeclaredFields()) {
            boolean isConstant = Set.of("BAD", "STATE", "FULL", "NONE").contains(f.getName());
            check.isTrue(f.toString(), isConstant ? f.getModifiers() == (Modifier.PUBLIC | Modifier.STATIC | Modifier.FINAL)
                : Modifier.isPrivate(f.getModifiers()));
            check.isTrue(f + " is no static state", !Modifier.isStatic(f.getModifiers()) || Modifier.isFinal(f.getModifiers()));
        }
        Constructor<?>[] made = c.getDeclaredConstructors();
        check.isTrue("one constructor", made.length == 1 && Modifier.isPublic(made[0].getModifiers())
            && made[0].getParameterCount() == 0);
        check.due("BAD", ChimeShares.BAD, -1);
        check.due("STATE", ChimeShares.STATE, -2);
        check.due("FULL", ChimeShares.FULL, -3);
        check.due("NONE", ChimeShares.NONE, -4);
    }

    private static void nestedClasses() {
        Set<String> names = new TreeSet<>();
        for (String s : FACE) {
            names.add(s.substring(0, s.indexOf('(')));
        }
        Class<?>[] nested = ChimeShares.class.getDeclaredClasses();
        check.isTrue("at most twelve classes", nested.length + 1 <= 12);
        for (Class<?> c : nested) {
            check.isTrue(c + " is static", Modifier.isStatic(c.getModifiers()) && !Modifier.isPublic(c.getModifiers()));
            int fields = 0;
            for (Field f : c.getDeclaredFields()) {
                fields += Modifier.isStatic(f.getModifiers()) ? 0 : 1;
            }
            check.isTrue(c + " has at most twenty fields", fields <= 20);
            for (Method m : c.getDeclaredMethods()) {
                check.isTrue(m + " bears no name of the face", !names.contains(m.getName()));
                check.isTrue(m + " takes at most seven", m.getParameterCount() <= 7);
            }
        }
        for (Method m : ChimeShares.class.getDeclaredMethods()) {
            check.isTrue(m + " bears no name of the face", !Modifier.isPrivate(m.getModifiers()) || !names.contains(m.getName()));
        }
    }

    private static void source() throws Exception {
        String text = Files.readString(Path.of("src/main/java/ChimeShares.java"), StandardCharsets.ISO_8859_1);
        for (char c : text.toCharArray()) {
            check.isTrue("sign " + (int) c, c == '\n' || (c >= 32 && c <= 126));
        }
        String code = text.replaceAll("(?s)/\\*.*?\\*/", "").replaceAll("//[^\n]*", "");
        for (String word : List.of("throw", "throws", "try", "catch", "synchronized", "assert", "package", "Object",
            "hashCode", "toString", "protected", "double", "float", "Exact", "var", "System.out", "Byte.", "Long.", "Random")) {
            String bound = Character.isLetter(word.charAt(word.length() - 1)) ? "\\b" : "";
            check.isTrue("no " + word, !Pattern.compile("\\b" + Pattern.quote(word) + bound).matcher(code).find());
        }
        check.isTrue("no lambda", !code.contains("->") && !code.contains("::"));
        Matcher imports = Pattern.compile("import ([^;]+);").matcher(code);
        while (imports.find()) {
            check.isTrue("import " + imports.group(1), Set.of("java.util.Arrays", "java.util.ArrayList", "java.util.List")
                .contains(imports.group(1)));
        }
        methodLengths(text);
    }

    private static void methodLengths(String text) {
        String[] lines = text.split("\n");
        int start = -1;
        String end = "";
        for (int i = 0; i < lines.length; i++) {
            String line = lines[i];
            if (start < 0 && line.matches("    (    )?[^ /*].*\\) \\{") && !line.contains(" class ")) {
                start = i;
                end = line.substring(0, line.length() - line.stripLeading().length()) + "}";
            } else if (start >= 0 && line.equals(end)) {
                check.isTrue("line " + start + " begins a short method", i - start < 60);
                start = -1;
            }
        }
    }

    /** Calls every method with the edges of int, in several states. */
    private static void nothingThrown() throws Exception {
        int[] edges = {0, 1, 2, 3, 5, 6, 10, 11, 12, 13, 20, 40, 41, 72, 999, 1000, -1, -2, -3, -4, -5, 21, 22,
            Integer.MAX_VALUE, Integer.MAX_VALUE - 9, Integer.MIN_VALUE, Integer.MIN_VALUE + 9};
        String[] states = {"", "houses 1;", "bell 0 0 0;", "houses 6;bell 5 20 9 half 0;bell 0 20 9 shut;tune 99 0 1 0;feud 0 5;",
            "houses 6;feud 5 0;bell 0 1 1;" + "bell 5 1 1;".repeat(11) + "tune 9 11;".repeat(6),
            "bell 0 1 1;".repeat(12) + "tune 50 0 1 2 3 4 5 6 7 8 9 10 11;" + "tune 40 11 10 9 8 7 6 5 4 3 2 1 0;"};
        for (String state : states) {
            ChimeShares x = new ChimeShares();
            for (String call : FACE) {
                // Told anew each time, for a text of nothing that was taken would empty the town.
                x.end(0);
                check.isTrue("told: " + state, Check.tell(x, state) >= 0);
                for (int i = 0; i < 12; i++) {
                    x.hear(-4);
                }
                for (Method m : ChimeShares.class.getDeclaredMethods()) {
                    if (signature(m).equals(call)) {
                        callAll(x, m, edges, new Object[m.getParameterCount()], 0);
                    }
                }
            }
        }
    }

    private static void callAll(ChimeShares x, Method m, int[] edges, Object[] given, int at) throws Exception {
        if (at == given.length) {
            try {
                m.invoke(x, given);
            } catch (java.lang.reflect.InvocationTargetException e) {
                check.isTrue(m.getName() + Arrays.toString(given) + " threw " + e.getCause(), false);
            }
            return;
        }
        Class<?> type = m.getParameterTypes()[at];
        // Four numbers at once would be too many runs: those behind the first go by steps.
        int step = given.length == 4 && at > 0 ? 3 : 1;
        for (int i = 0; i < edges.length; i += step) {
            given[at] = type == boolean.class ? (Object) (edges[i] % 2 == 0) : type == long.class ? (Object) (long) edges[i]
                : (Object) edges[i];
            callAll(x, m, edges, given, at + 1);
        }
    }

    /** All rows are made by the constructor: what calls make is nothing. */
    private static void nothingMade() {
        ThreadMXBean threads = (ThreadMXBean) ManagementFactory.getThreadMXBean();
        long thread = Thread.currentThread().getId();
        ChimeShares x = RingTest.town();
        long least = Long.MAX_VALUE;
        for (int i = 0; i < 5; i++) {
            long before = threads.getThreadAllocatedBytes(thread);
            callDearest(x);
            least = Math.min(least, threads.getThreadAllocatedBytes(thread) - before);
        }
        check.isTrue("bytes that calls made: " + least, least < 512);
        long before = threads.getThreadAllocatedBytes(thread);
        for (int i = 0; i < 100; i++) {
            x = new ChimeShares();
        }
        long each = (threads.getThreadAllocatedBytes(thread) - before) / 100;
        check.isTrue("bytes of an object: " + each + x.count(0), each < 12000);
    }

    private static void callDearest(ChimeShares x) {
        x.feuding(3);
        x.best(0, 0);
        x.settle(30);
        x.settled();
        x.feast(2, 0);
        x.fair(2, 9, 1);
        x.nearest(0, 1, 0);
        x.dear(0);
        x.wine(9, 0);
        x.sheet(0, 0, 40);
        x.read(0, 0, 0, 12);
        x.which(3);
        x.hush();
        x.keep(0);
        x.back(0);
        x.feed(0x67617020373b6761L);
        x.text();
    }
}
