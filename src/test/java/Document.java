import java.io.IOException;
import java.nio.file.Files;
import java.nio.file.Path;
import java.util.regex.Matcher;
import java.util.regex.Pattern;

/** The document's Terms (part 0) and promises (parts 1 to 51), each as one row of words. */
final class Document {
    static final int TERMS = 0, PROMISES = 51;

    private final String[] parts = new String[PROMISES + 1];

    Document(String path) throws IOException {
        Matcher m = Pattern.compile("(?s)\\n## (Terms|Promise (\\d+):[^\\n]*)\\n(.*?)(?=\\n## |$)")
            .matcher(Files.readString(Path.of(path)));
        while (m.find()) {
            int part = m.group(2) == null ? TERMS : Integer.parseInt(m.group(2));
            parts[part] = wordsOf(m.group(3));
        }
    }

    /** Line ends and marks of the page are no words; nor is the call's head, ahead of a promise. */
    private static String wordsOf(String text) {
        return text.replaceAll("```(text)?|========", " ").replaceAll("^\\s*`[^`]*`:", " ")
            .replaceAll("(?m)^Ahead of the calls .*$", " ").replaceAll("\\s+", " ").trim();
    }

    String part(int number) {
        return number >= 0 && number <= PROMISES && parts[number] != null ? parts[number] : "";
    }
}
