import java.io.IOException;
import java.net.URL;
import java.net.URLClassLoader;
import java.nio.file.Files;
import java.nio.file.Path;
import java.util.ArrayList;
import java.util.Comparator;
import java.util.List;
import java.util.Set;
import java.util.TreeSet;
import java.util.regex.Matcher;
import java.util.regex.Pattern;
import java.util.stream.Collectors;
import java.util.stream.Stream;
import javax.tools.ToolProvider;

/** README.md is right: its example answers so, it names every call and every test, and its commands work. */
public final class ReadmeTest {
    private static final Check check = new Check("ReadmeTest");
    private static final Path TESTS = Path.of("src/test/java");
    private static final Path SHARED = Path.of("../shared");
    private static final String ALL_TESTS = ".ci/run";

    public static void main(String[] args) throws Exception {
        String readme = Files.readString(Path.of("README.md"));
        Path folder = Files.createTempDirectory("readme");
        try {
            example(readme, folder);
            calls(readme);
            questions(readme);
            tests(readme);
            commands(readme, folder);
        } finally {
            remove(folder);
        }
        check.end();
    }

    /** What stands in the blocks of that language. */
    private static List<String> blocks(String readme, String language) {
        return found(readme, "(?s)```" + language + "\n(.*?)```\n");
    }

    /** The first group of each place where the pattern is found. */
    private static List<String> found(String text, String pattern) {
        return Pattern.compile(pattern).matcher(text).results().map(place -> place.group(1)).collect(Collectors.toList());
    }

    /** The example is made a program that tells each call which has an answer behind it, with what it answered. */
    private static void example(String readme, Path folder) throws Exception {
        List<String> blocks = blocks(readme, "java");
        check.due("one example", blocks.size(), 1);
        Matcher call = Pattern.compile("(?m)^(x\\..*\\)); +// (true|false|-?\\d+)\\b.*$").matcher(blocks.get(0));
        String due = call.results().map(place -> place.group(1) + " is " + place.group(2) + "\n").collect(Collectors.joining());
        String body = call.reset().replaceAll(place -> Matcher.quoteReplacement(telling(place.group(1))));
        check.due("a call without its answer", found(body, "(?m)^(x\\..*)$").toString(), "[]");
        for (String name : callNames()) {
            check.due("the example has " + name, body.contains("x." + name + "("), true);
        }
        Path source = Files.writeString(folder.resolve("Example.java"), "public final class Example {\n"
            + "public static String told() {\nStringBuilder told = new StringBuilder();\n" + body
            + "return told.toString();\n}\n}\n");
        int code = ToolProvider.getSystemJavaCompiler().run(null, System.out, System.out, "-proc:none",
            "-cp", System.getProperty("java.class.path"), "-d", folder.toString(), source.toString());
        check.due("the example compiles", code, 0);
        if (code == 0) {
            check.due("the example", run(folder), due);
        }
    }

    private static String telling(String call) {
        String quoted = call.replace("\\", "\\\\").replace("\"", "\\\"");
        return "told.append(\"" + quoted + " is \").append(" + call + ").append('\\n');";
    }

    private static String run(Path folder) throws Exception {
        try (URLClassLoader loader = new URLClassLoader(new URL[] {folder.toUri().toURL()})) {
            return (String) loader.loadClass("Example").getMethod("told").invoke(null);
        }
    }

    /** The face of the document, a line each, without public and the ; behind it. */
    private static List<String> face() throws IOException {
        String block = blocks(Files.readString(SHARED.resolve("DOC.md")), "java").get(0);
        return found(block, "(?m)^ +public ([^=\n]*);$");
    }

    private static Set<String> callNames() throws IOException {
        return new TreeSet<>(found(String.join("\n", face()), "(?m)^\\w+ (\\w+)\\("));
    }

    // "how to use the class (its calls and what they answer, in short)"
    private static void calls(String readme) throws IOException {
        check.due("calls in the document", face().size(), 12);
        check.due("calls in the table", String.join("\n", found(readme, "(?m)^\\| `([^`]*\\))` \\| \\S.*\\|$")),
            String.join("\n", face()));
    }

    // Each question that node and count answer has its row, and no other.
    private static void questions(String readme) {
        SharedSyntax x = new SharedSyntax();
        List<String> rows = found(readme, "(?m)^(\\| \\d+ \\|.*\\|)$");
        for (int what = 0; what < rows.size(); what++) {
            String[] cells = rows.get(what).split("\\|");
            check.due("row " + what, cells[1].trim(), Integer.toString(what));
            check.due("node(1, " + what + ") is told", cells[2].isBlank(), x.node(1, what) == SharedSyntax.NONE);
            check.due("count(" + what + ") is told", cells[3].isBlank(), x.count(what) == SharedSyntax.NONE);
        }
        check.due("no more for node", x.node(1, rows.size()), SharedSyntax.NONE);
        check.due("no more for count", x.count(rows.size()), SharedSyntax.NONE);
    }

    private static void tests(String readme) throws IOException {
        try (Stream<Path> files = Files.list(TESTS)) {
            Set<String> due = new TreeSet<>();
            files.map(file -> file.getFileName().toString()).filter(name -> name.endsWith("Test.java"))
                .forEach(name -> due.add(name.replace(".java", "")));
            Set<String> told = new TreeSet<>(found(readme, "(?m)^\\| `(\\w+Test)` \\|"));
            check.due("tests in the table", told.toString(), due.toString());
        }
    }

    // "the commands that it names for that are those that work on a clean checkout"
    private static void commands(String readme, Path folder) throws Exception {
        List<String> blocks = blocks(readme, "sh");
        check.due("commands for all tests, one test and one of the shared tests", blocks.size(), 3);
        // Not run here: it is what runs this test.
        check.due("the command for all tests", blocks.remove(0), ALL_TESTS + "\n");
        check.due(ALL_TESTS + " can be run", Files.isExecutable(Path.of(ALL_TESTS)), true);
        Path checkout = folder.resolve("checkout/main");
        copy(Path.of("src"), checkout.resolve("src"));
        Files.createSymbolicLink(folder.resolve("checkout/shared"), SHARED.toRealPath());
        for (String block : blocks) {
            Process process = new ProcessBuilder("sh", "-e", "-c", block).directory(checkout.toFile())
                .redirectErrorStream(true).start();
            String told = new String(process.getInputStream().readAllBytes());
            check.due(block + told, process.waitFor(), 0);
        }
    }

    private static void copy(Path from, Path to) throws IOException {
        for (Path path : below(from)) {
            Path copied = to.resolve(from.relativize(path));
            if (Files.isDirectory(path)) {
                Files.createDirectories(copied);
            } else {
                Files.write(copied, Files.readAllBytes(path));
            }
        }
    }

    private static void remove(Path folder) throws IOException {
        List<Path> all = below(folder);
        all.sort(Comparator.reverseOrder());
        for (Path path : all) {
            Files.delete(path);
        }
    }

    /** The folder and all that lies in it, a folder before what lies in it. */
    private static List<Path> below(Path folder) throws IOException {
        try (Stream<Path> paths = Files.walk(folder)) {
            return paths.collect(Collectors.toCollection(ArrayList::new));
        }
    }
}
