import java.io.IOException;
import java.lang.reflect.Method;
import java.lang.reflect.Modifier;
import java.net.URL;
import java.net.URLClassLoader;
import java.nio.charset.StandardCharsets;
import java.nio.file.Files;
import java.nio.file.Path;
import java.util.Comparator;
import java.util.List;
import java.util.regex.Matcher;
import java.util.regex.Pattern;
import java.util.stream.Stream;
import javax.tools.ToolProvider;

/** README.md: its Java is compiled and run, and each answer that stands behind a call is set against the class. */
public final class ReadmeTest {
    private static final Check check = new Check("ReadmeTest");
    private static final Pattern BLOCK = Pattern.compile("(?s)```java\n(.*?)```");

    /** A call that may go over several lines, with the answer that it begins its comment with. */
    private static final Pattern ANSWERED = Pattern.compile("(?m)^((?:x\\.|tell\\()[^;\"]*(?:\"[^\"]*\"[^;\"]*)*); +// (-?\\d+)\\b.*$");

    public static void main(String[] args) throws Exception {
        String page = Files.readString(Path.of("README.md"), StandardCharsets.UTF_8);
        everyCallNamed(page);
        everyTestNamed(page);
        Path dir = Files.createTempDirectory("readme");
        try {
            runExamples(page, dir);
        } finally {
            delete(dir);
        }
        check.close();
    }

    private static void everyCallNamed(String page) {
        for (Method m : ChimeShares.class.getDeclaredMethods()) {
            if (Modifier.isPublic(m.getModifiers())) {
                int given = m.getParameterCount();
                String form = "`" + m.getName() + "\\(" + (given == 0 ? "" : "\\w+" + ", \\w+".repeat(given - 1)) + "\\)`";
                check.isTrue(m + " is named in README.md", Pattern.compile(form).matcher(page).find());
            }
        }
    }

    private static void everyTestNamed(String page) throws IOException {
        try (Stream<Path> files = Files.list(Path.of("src/test/java"))) {
            for (Path file : files.toList()) {
                String name = file.getFileName().toString().replace(".java", "");
                if (name.endsWith("Test")) {
                    check.isTrue(name + " is named in README.md", page.contains("`" + name + "`"));
                }
            }
        }
    }

    private static void runExamples(String page, Path dir) throws Exception {
        StringBuilder members = new StringBuilder();
        StringBuilder calls = new StringBuilder();
        Matcher block = BLOCK.matcher(page);
        while (block.find()) {
            (block.group(1).startsWith("static ") ? members : calls).append(block.group(1));
        }
        int comments = calls.toString().split(" // ", -1).length - 1;
        Matcher answered = ANSWERED.matcher(calls);
        check.due("comments that are answers", answered.results().count(), comments);
        check.isTrue("there are answers", comments > 0);
        String told = answered.reset().replaceAll(call -> Matcher.quoteReplacement("ReadmeTest.due("
            + literal(call.group(1)) + ", " + call.group(1) + ", " + call.group(2) + ");"));
        compileAndRun("public final class ReadmeRun {\npublic static void run() {\n" + told + "}\n" + members + "}\n", dir);
    }

    private static String literal(String text) {
        return '"' + text.replaceAll("\\s+", " ").replace("\"", "\\\"") + '"';
    }

    /** Public, for the page's Java is loaded apart and calls it from there. */
    public static void due(String call, long got, long want) {
        check.due(call, got, want);
    }

    private static void compileAndRun(String source, Path dir) throws Exception {
        Path file = dir.resolve("ReadmeRun.java");
        Files.writeString(file, source);
        int failed = ToolProvider.getSystemJavaCompiler().run(null, null, null,
            "--release", "17", "-cp", System.getProperty("java.class.path"), "-d", dir.toString(), file.toString());
        check.due("README.md's Java compiles", failed, 0);
        if (failed != 0) {
            return;
        }
        try (URLClassLoader loader = new URLClassLoader(new URL[] {dir.toUri().toURL()})) {
            loader.loadClass("ReadmeRun").getMethod("run").invoke(null);
        }
    }

    private static void delete(Path dir) throws IOException {
        List<Path> all;
        try (Stream<Path> files = Files.walk(dir)) {
            all = files.sorted(Comparator.reverseOrder()).toList();
        }
        for (Path path : all) {
            Files.delete(path);
        }
    }
}
