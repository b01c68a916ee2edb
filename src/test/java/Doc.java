import java.io.IOException;
import java.nio.charset.StandardCharsets;
import java.nio.file.Files;
import java.nio.file.Path;
import java.util.Map;
import java.util.TreeMap;
import java.util.regex.Matcher;
import java.util.regex.Pattern;

/** The document's sections, and what of them no test has quoted yet: the terms are section 0. */
final class Doc {
    private static final Path FILE = Path.of("../shared/DOC.md");
    private static final Pattern HEADING = Pattern.compile("(?m)^## (Promise (\\d+):|Terms|[A-Z]).*$");

    /** Words by which a sentence names an edge. */
    private static final Pattern EDGE = Pattern.compile("\\b(BAD|STATE|FULL|NONE|NULL|INDEX|CAST|SIZE|none|nobody|nothing|above"
        + "|below|more|most|least|greatest|first|latest|several|empty|alike|also|up to|0 to|1 to|1[0-9]th|7th|second time"
        + "|too long|no room|not so many|at first|lowest|refuses?d?|divided|modulo|whether|stays?|gone)\\b");

    private final Map<Integer, String> whole = new TreeMap<>();
    private final Map<Integer, String> left = new TreeMap<>();

    /** Without the file there is nothing to quote from, and the answers alone are tested. */
    Doc() throws IOException {
        if (!isThere()) {
            return;
        }
        String text = Files.readString(FILE, StandardCharsets.UTF_8);
        Matcher heading = HEADING.matcher(text);
        boolean isMore = heading.find();
        while (isMore) {
            int section = heading.group(2) != null ? Integer.parseInt(heading.group(2)) : heading.group(1).equals("Terms") ? 0 : -1;
            int from = heading.end();
            isMore = heading.find();
            if (section >= 0) {
                whole.put(section, plain(text.substring(from, isMore ? heading.start() : text.length())));
            }
        }
        left.putAll(whole);
    }

    private static String plain(String text) {
        return text.replaceAll("```(text)?", " ").replace("`", "").replaceAll("\\s+", " ");
    }

    static boolean isThere() {
        return Files.exists(FILE);
    }

    int promises() {
        return whole.size() - 1;
    }

    /** Whether the section has these words; they count as quoted then. */
    boolean quote(int section, String words) {
        if (!whole.getOrDefault(section, "").contains(words)) {
            return false;
        }
        left.put(section, left.get(section).replace(words, " # "));
        return true;
    }

    /** A word of the section that names an edge and stands in no quoted sentence; empty, if there is none. */
    String edgeLeft(int section) {
        String text = left.getOrDefault(section, "");
        Matcher edge = EDGE.matcher(text);
        return edge.find() ? text.substring(Math.max(0, edge.start() - 60), Math.min(text.length(), edge.end() + 60)) : "";
    }
}
