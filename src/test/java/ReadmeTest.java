import java.io.IOException;
import java.lang.reflect.InvocationTargetException;
import java.net.URL;
import java.net.URLClassLoader;
import java.nio.file.Files;
import java.nio.file.Path;
import java.util.ArrayList;
import java.util.List;
import java.util.regex.Matcher;
import java.util.regex.Pattern;
import javax.tools.JavaCompiler;
import javax.tools.ToolProvider;

/** The examples of README.md: they compile, and each call answers the number behind its //. */
public final class ReadmeTest {
    private static final Pattern ANSWERED = Pattern.compile("(\\w+\\.[^;]+);\\s+// (-?\\d+):? .*");

    private int helpers;
    private int answers;

    public static void main(String[] args) throws Exception {
        List<String> readme = Files.readAllLines(Path.of(args.length > 0 ? args[0] : "README.md"));
        ReadmeTest test = new ReadmeTest();
        String source = test.source(blocks(readme));
        if (test.helpers == 0 || test.answers == 0) {
            System.out.println("README.md shows no helper, or no answers");
            System.out.println("0 passed, 1 failed");
            System.exit(1);
        }
        int wrong = run(source);
        System.out.println(test.answers - wrong + " passed, " + wrong + " failed");
        if (wrong > 0) {
            System.exit(1);
        }
    }

    private static List<List<String>> blocks(List<String> readme) {
        List<List<String>> blocks = new ArrayList<>();
        List<String> open = null;
        for (String line : readme) {
            if (line.equals("```java")) {
                open = new ArrayList<>();
                blocks.add(open);
            } else if (line.equals("```")) {
                open = null;
            } else if (open != null) {
                open.add(line);
            }
        }
        return blocks;
    }

    /** A class with the helper as it stands, and each other example in a block of its own. */
    private String source(List<List<String>> blocks) {
        StringBuilder members = new StringBuilder();
        StringBuilder body = new StringBuilder();
        for (List<String> block : blocks) {
            if (block.get(0).startsWith("static ")) {
                helpers++;
                members.append(String.join("\n", block)).append('\n');
            } else {
                body.append("{\n");
                for (String line : block) {
                    body.append(statement(line)).append('\n');
                }
                body.append("}\n");
            }
        }
        return "public class Example {\n" + members
            + "static int due(String call, int answer, int want) {\n"
            + "if (answer != want) System.out.println(\"  README.md: \" + call + \" answers \" + answer);\n"
            + "return answer == want ? 0 : 1;\n}\n"
            + "public static Integer wrong() {\nint wrong = 0;\n" + body + "return wrong;\n}\n}\n";
    }

    private String statement(String line) {
        Matcher answered = ANSWERED.matcher(line);
        if (!answered.matches()) {
            return line;
        }
        answers++;
        String call = answered.group(1);
        return "wrong += due(\"" + call.replace("\"", "\\\"") + "\", " + call + ", " + answered.group(2) + ");";
    }

    private static int run(String source) throws IOException, ReflectiveOperationException {
        Path place = Files.createTempDirectory("readme");
        Path file = place.resolve("Example.java");
        try {
            Files.writeString(file, source);
            JavaCompiler compiler = ToolProvider.getSystemJavaCompiler();
            int failed = compiler.run(null, null, null, "-d", place.toString(), "-cp",
                System.getProperty("java.class.path"), file.toString());
            if (failed != 0) {
                return 1;
            }
            try (URLClassLoader loader = new URLClassLoader(new URL[] {place.toUri().toURL()})) {
                return (Integer) loader.loadClass("Example").getMethod("wrong").invoke(null);
            } catch (InvocationTargetException thrown) {
                System.out.println("  README.md: " + thrown.getCause());
                return 1;
            }
        } finally {
            Files.deleteIfExists(place.resolve("Example.class"));
            Files.deleteIfExists(file);
            Files.deleteIfExists(place);
        }
    }
}
