import java.io.IOException;
import java.nio.file.Files;
import java.nio.file.Path;
import java.util.ArrayList;
import java.util.List;
import java.util.regex.Matcher;
import java.util.regex.Pattern;
import java.util.stream.Collectors;
import java.util.stream.Stream;

/** Each sentence of the Terms and of the promises has a test that says it. */
public final class SentencesTest {
    private static final Pattern SAYS = Pattern.compile(
        "e\\.says\\((\\d+),\\s*((?:\"(?:[^\"\\\\]|\\\\.)*\"\\s*\\+?\\s*)+)\\)");
    private static final Pattern TEXT = Pattern.compile("\"((?:[^\"\\\\]|\\\\.)*)\"");

    public static void main(String[] args) throws IOException {
        Check check = new Check("SentencesTest");
        Document document = new Document(args[1]);
        boolean[][] said = new boolean[Document.PROMISES + 1][];
        for (int part = 0; part <= Document.PROMISES; part++) {
            said[part] = new boolean[document.part(part).length()];
            check.due("part " + part + " has words", said[part].length > 0 ? 1 : 0, 1);
        }
        for (String source : sourcesIn(args[2])) {
            Matcher m = SAYS.matcher(source);
            while (m.find()) {
                mark(check, document, said, Integer.parseInt(m.group(1)), wordsOf(m.group(2)));
            }
        }
        for (int part = 0; part <= Document.PROMISES; part++) {
            String left = leftOf(document.part(part), said[part]);
            check.due("part " + part + " without a test: " + left, left.length(), 0);
        }
        check.end();
    }

    private static List<String> sourcesIn(String directory) throws IOException {
        try (Stream<Path> files = Files.list(Path.of(directory))) {
            List<String> sources = new ArrayList<>();
            for (Path test : files.sorted().collect(Collectors.toList())) {
                if (test.toString().endsWith("Test.java")) {
                    sources.add(Files.readString(test));
                }
            }
            return sources;
        }
    }

    /** What a row of Java texts tells, joined. */
    private static String wordsOf(String literals) {
        StringBuilder words = new StringBuilder();
        Matcher m = TEXT.matcher(literals);
        while (m.find()) {
            words.append(m.group(1).replaceAll("\\\\(.)", "$1"));
        }
        return words.toString();
    }

    private static void mark(Check check, Document document, boolean[][] said, int part, String words) {
        int from = document.part(part).indexOf(words);
        check.due("part " + part + " says: " + words, from >= 0 ? 1 : 0, 1);
        // A sentence that stands there twice has a test for both.
        while (from >= 0) {
            for (int i = from; i < from + words.length(); i++) {
                said[part][i] = true;
            }
            from = document.part(part).indexOf(words, from + 1);
        }
    }

    private static String leftOf(String words, boolean[] said) {
        StringBuilder left = new StringBuilder();
        for (int i = 0; i < said.length; i++) {
            if (!said[i]) {
                left.append(words.charAt(i));
            }
        }
        return left.toString().replaceAll("[^A-Za-z0-9]+", " ").trim();
    }
}
