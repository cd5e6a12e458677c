import java.lang.reflect.Method;
import java.lang.reflect.Modifier;
import java.net.URL;
import java.net.URLClassLoader;
import java.nio.charset.StandardCharsets;
import java.nio.file.Files;
import java.nio.file.Path;
import java.util.ArrayList;
import java.util.List;
import java.util.regex.MatchResult;
import java.util.regex.Matcher;
import java.util.regex.Pattern;
import javax.tools.JavaCompiler;
import javax.tools.ToolProvider;

/** The Java on README.md compiles, and each call there answers what stands behind it. */
public final class ReadmeTest {
    private static final Pattern BLOCK = Pattern.compile("(?s)```java\n(.*?)```");
    private static final Pattern CALL = Pattern.compile("(?m)^(x\\.\\w+\\(.*\\)); +// (-?\\d+|true|false)\\b.*$");

    private ReadmeTest() {
    }

    public static void main(String[] args) throws Exception {
        String page = Files.readString(Path.of("README.md"), StandardCharsets.UTF_8);
        everyCallIsNamed(page);
        runExamples(program(page));
        Check.end();
    }

    private static void everyCallIsNamed(String page) {
        for (Method method : TermRows.class.getDeclaredMethods()) {
            if (Modifier.isPublic(method.getModifiers())) {
                Check.due(method.getName() + " is on the page", true, page.contains("`" + method.getName() + "`"));
            }
        }
    }

    /** Blocks that declare something stand in the class, each of the others in a block of its one method. */
    private static String program(String page) {
        StringBuilder members = new StringBuilder();
        StringBuilder body = new StringBuilder();
        int answers = 0;
        Matcher blocks = BLOCK.matcher(page);
        while (blocks.find()) {
            String block = blocks.group(1);
            if (block.startsWith("static ")) {
                members.append(block);
                continue;
            }
            Matcher calls = CALL.matcher(block);
            answers += (int) calls.results().count();
            Check.due("calls without an answer", 0,
                (int) block.lines().filter(line -> line.startsWith("x.") && !CALL.matcher(line).matches()).count());
            body.append("{\n").append(calls.replaceAll(ReadmeTest::kept)).append("}\n");
        }
        Check.due("the page has answers", true, answers >= 20);
        return "public class FromReadme {\n" + members
            + "public static void run(java.util.List<String[]> rows) {\n" + body + "}\n}\n";
    }

    /** The call with its answer kept: another loader's class can't reach Check. */
    private static String kept(MatchResult call) {
        return Matcher.quoteReplacement("rows.add(new String[] {\"" + call.group(1) + "\", \"" + call.group(2)
            + "\", String.valueOf(" + call.group(1) + ")});");
    }

    private static void runExamples(String program) throws Exception {
        Path work = Files.createTempDirectory("readme");
        Path source = work.resolve("FromReadme.java");
        Path made = work.resolve("FromReadme.class");
        Files.writeString(source, program);
        JavaCompiler compiler = ToolProvider.getSystemJavaCompiler();
        String known = System.getProperty("java.class.path");
        int ended = compiler.run(null, null, null, "-cp", known, "-d", work.toString(), source.toString());
        Check.due("the page's Java compiles", 0, ended);
        if (ended == 0) {
            try (URLClassLoader loader = new URLClassLoader(new URL[] {work.toUri().toURL()})) {
                List<String[]> rows = new ArrayList<>();
                loader.loadClass("FromReadme").getMethod("run", List.class).invoke(null, rows);
                for (String[] row : rows) {
                    Check.due(row[0], row[1], row[2]);
                }
            }
        }
        Files.deleteIfExists(source);
        Files.deleteIfExists(made);
        Files.deleteIfExists(work);
    }
}
