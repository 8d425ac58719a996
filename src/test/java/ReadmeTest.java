import java.io.IOException;
import java.net.URL;
import java.net.URLClassLoader;
import java.nio.file.Files;
import java.nio.file.Path;
import java.nio.file.Paths;
import java.util.ArrayList;
import java.util.List;
import java.util.function.BiConsumer;
import java.util.regex.Matcher;
import java.util.regex.Pattern;
import java.util.stream.Collectors;
import java.util.stream.Stream;
import javax.tools.ToolProvider;

/**
 * The examples of README.md: they compile, and a line such as "x.run(0);   // 1: why" answers what its comment begins
 * with. It also names every call of the class and every test.
 */
public final class ReadmeTest {
    private static final Pattern ANSWERED = Pattern.compile("(.*\\));\\s+// (-?\\d+|NONE|true|false)\\b.*");
    private static final String[] CALLS = {"feed", "build", "fault", "restart", "input", "run", "output", "clear",
        "global", "go", "mark", "same", "at", "count"};

    private static int answers = 0;

    public static void main(String[] args) throws Exception {
        List<String> lines = Files.readAllLines(Paths.get("README.md"));
        names(String.join("\n", lines));
        StringBuilder methods = new StringBuilder();
        StringBuilder statements = new StringBuilder();
        for (List<String> block : blocks(lines)) {
            if (block.get(0).startsWith("static ")) {
                methods.append(String.join("\n", block)).append('\n');
            } else {
                statements.append("{\n").append(asked(block)).append("}\n");
            }
        }
        Check.due("answers in the examples", answers >= 25, true);
        work(source(methods, statements));
        Check.end("ReadmeTest");
    }

    private static void names(String text) throws IOException {
        for (String call : CALLS) {
            Check.due("README.md tells of " + call, text.contains("`" + call + "("), true);
        }
        try (Stream<Path> files = Files.list(Paths.get("src/test/java"))) {
            for (String file : files.map(f -> f.getFileName().toString()).collect(Collectors.toList())) {
                String name = file.replace(".java", "");
                Check.due("README.md tells of " + name,
                        !name.endsWith("Test") || text.contains("| `" + name + "` |"), true);
            }
        }
        Check.due("README.md tells how to run the tests", text.contains("```sh\n.ci/run\n```"), true);
    }

    private static List<List<String>> blocks(List<String> lines) {
        List<List<String>> all = new ArrayList<>();
        List<String> block = null;
        for (String line : lines) {
            if (block == null && line.equals("```java")) {
                block = new ArrayList<>();
            } else if (block != null && line.equals("```")) {
                all.add(block);
                block = null;
            } else if (block != null) {
                block.add(line);
            }
        }
        return all;
    }

    private static String asked(List<String> block) {
        StringBuilder all = new StringBuilder();
        for (String line : block) {
            Matcher m = ANSWERED.matcher(line);
            Check.due("a call with its answer: " + line, m.matches() == line.contains("//"), true);
            if (m.matches()) {
                answers++;
                String told = m.group(1).replace("\\", "\\\\").replace("\"", "\\\"");
                String want = m.group(2).equals("NONE") ? "BracketTongue.NONE" : m.group(2);
                all.append("due.accept(\"" + told + "\", new long[] {n(" + m.group(1) + "), n(" + want + ")});\n");
            } else {
                all.append(line).append('\n');
            }
        }
        return all.toString();
    }

    private static String source(StringBuilder methods, StringBuilder statements) {
        return "public final class Examples implements Runnable {\n"
                + "private final java.util.function.BiConsumer<String, long[]> due;\n"
                + "public Examples(java.util.function.BiConsumer<String, long[]> due) { this.due = due; }\n"
                + "private static long n(int number) { return number; }\n"
                + "private static long n(boolean isSo) { return isSo ? 1 : 0; }\n"
                + methods + "@Override public void run() {\n" + statements + "}\n}\n";
    }

    private static void work(String source) throws Exception {
        Path place = Files.createTempDirectory("readme");
        try {
            Path file = place.resolve("Examples.java");
            Files.writeString(file, source);
            int code = ToolProvider.getSystemJavaCompiler().run(null, null, null, "--release", "17", "-cp",
                    System.getProperty("java.class.path"), "-d", place.toString(), file.toString());
            Check.due("the examples compile", code, 0);
            if (code == 0) {
                run(place);
            }
        } finally {
            try (Stream<Path> files = Files.list(place)) {
                for (Path made : files.collect(Collectors.toList())) {
                    Files.delete(made);
                }
            }
            Files.delete(place);
        }
    }

    private static void run(Path place) throws Exception {
        try (URLClassLoader loader = new URLClassLoader(new URL[] {place.toUri().toURL()})) {
            BiConsumer<String, long[]> due = (call, both) -> Check.due("README.md: " + call, both[0], both[1]);
            Object examples = loader.loadClass("Examples").getConstructor(BiConsumer.class).newInstance(due);
            ((Runnable) examples).run();
        }
    }
}
