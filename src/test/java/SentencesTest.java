import java.io.IOException;
import java.nio.file.Files;
import java.nio.file.Path;
import java.util.ArrayList;
import java.util.List;
import java.util.regex.Pattern;

/** Every sentence of the document has a test: src/test/sentences.txt has them all, with tests that are there and are run. */
public final class SentencesTest {
    private static final Check check = new Check("SentencesTest");
    private static final Path DOCUMENT = Path.of("../shared/DOC.md");
    private static final Path SENTENCES = Path.of("src/test/sentences.txt");
    private static final Path TESTS = Path.of("src/test/java");
    private static final String NOTHING = "(nothing is promised)";

    public static void main(String[] args) throws IOException {
        List<String> sentences = new ArrayList<>();
        List<String> tests = new ArrayList<>();
        read(sentences, tests);
        inTheirOrder(sentences);
        for (int i = 0; i < sentences.size(); i++) {
            testsOf(sentences.get(i), tests.get(i));
        }
        check.end();
    }

    private static void read(List<String> sentences, List<String> tests) throws IOException {
        List<String> lines = Files.readAllLines(SENTENCES);
        int head = 0;
        while (!lines.get(head).isEmpty()) {
            head++;
        }
        StringBuilder sentence = new StringBuilder();
        for (String line : lines.subList(head, lines.size())) {
            if (line.startsWith(" ")) {
                sentences.add(words(sentence.toString()));
                tests.add(line.trim());
                sentence.setLength(0);
            } else if (line.isEmpty()) {
                check.due("a sentence without a test", words(sentence.toString()), "");
            } else {
                sentence.append(line).append(' ');
            }
        }
        check.due("a sentence without a test", words(sentence.toString()), "");
    }

    private static String words(String text) {
        return text.trim().replaceAll("\\s+", " ");
    }

    private static void inTheirOrder(List<String> sentences) throws IOException {
        StringBuilder document = new StringBuilder();
        for (String line : Files.readAllLines(DOCUMENT)) {
            if (!line.startsWith("#") && !line.startsWith("```")) {
                document.append(line).append(' ');
            }
        }
        String rest = words(document.toString());
        for (String sentence : sentences) {
            boolean next = rest.startsWith(sentence);
            check.due("next in the document, before " + rest.substring(0, Math.min(60, rest.length())), next ? "" : sentence, "");
            if (!next) {
                return;
            }
            rest = rest.substring(sentence.length()).trim();
        }
        check.due("sentences of the document that are left over", rest, "");
    }

    private static void testsOf(String sentence, String tests) throws IOException {
        // The two words in capitals are titles, no sentences.
        String one = sentence.replaceFirst("^(TEXT|THE TREE)\\.", "");
        check.due("one sentence by itself: " + sentence, one.matches(".*[a-z0-9)}]\\. [A-Z].*"), false);
        if (tests.equals(NOTHING)) {
            check.due("nothing is promised by: " + sentence, sentence.matches(".*\\b(free|not promised)\\b.*"), true);
            return;
        }
        for (String test : tests.split(" +")) {
            check.due("a test of: " + sentence, test.matches("\\w+Test\\.\\w+"), true);
            isRun(test.replaceFirst("\\..*", ""), test.replaceFirst(".*\\.", ""));
        }
    }

    /** The method is there, and main calls it. */
    private static void isRun(String name, String method) throws IOException {
        Path file = TESTS.resolve(name + ".java");
        check.due("there is " + file, Files.exists(file), true);
        if (!Files.exists(file)) {
            return;
        }
        String source = Files.readString(file);
        String head = "    private static void " + method + "\\(.*\\{\n";
        check.due(name + " has " + method, Pattern.compile(head).matcher(source).find(), true);
        int begin = source.indexOf("public static void main");
        int end = source.indexOf("\n    }\n", begin);
        String main = begin < 0 || end < 0 ? "" : source.substring(begin, end);
        check.due("main of " + name + " calls " + method, Pattern.compile("\\b" + method + "\\(").matcher(main).find(), true);
    }
}
