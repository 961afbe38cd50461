import java.nio.charset.StandardCharsets;
import java.nio.file.Files;
import java.nio.file.Path;
import java.util.regex.Matcher;
import java.util.regex.Pattern;

/** The rules of ../shared/LANGUAGE.md that can be seen from the text of the class. */
public final class LanguageTest {
    private static final String[] NEVER = {"\\b(throw|throws|try|catch|finally|synchronized|assert)\\b",
        "\\b(import|package)\\b", "->", "::", "\\b(float|double|var|yield|Object|System\\.out)\\b",
        "\\b(equals|hashCode|toString)\\b", "\\w+Exact\\b", "@\\w+", "\" *\\+|\\+ *\"",
        "\\bnew [A-Z]\\w*\\([^)]*\\) *\\{", "\\bRandom\\b|\\bnanoTime\\b|currentTimeMillis",
        "\\b(protected|volatile|transient|native|strictfp)\\b", "[^&]&[^&\\n]*\\bfalse\\b"};

    public static void main(String[] args) throws Exception {
        Check check = new Check("LanguageTest");
        String text = Files.readString(Path.of(args[0]), StandardCharsets.UTF_8);
        check.due("signs beyond 127", text.chars().filter(c -> c > 127).count(), 0);
        String bare = text.replaceAll("(?s)/\\*.*?\\*/", "").replaceAll("//[^\\n]*", "");
        for (String one : NEVER) {
            check.due("text of " + one, Pattern.compile(one).matcher(bare).results().count(), 0);
        }
        long classes = count(bare, "\\b(class|enum|interface|record) [A-Z]");
        check.due("some twelve classes", classes <= 12 ? 1 : 0, 1);
        long nested = count(bare, "\\n    private static (final )?class ");
        check.due("those inside are private and static", nested, classes - 1);
        check.due("statics are final", count(bare, "\\bstatic (?!final|class)[\\w\\[\\]]+ \\w+( =|;)"), 0);
        checkMethods(check, bare);
        checkMade(check, bare);
        check.end();
    }

    // What is made anew by a call is counted against the room: only act() makes something, its thing.
    private static void checkMade(Check check, String bare) {
        Pattern allowed = Pattern.compile(" +(private )?final [\\w\\[\\]]+ \\w+ = new .*;"
            + "| +sheets\\[i\\] = new Sheet\\(\\);| +(case \\w+|default): return new \\w+\\(n, a\\);");
        for (String line : bare.split("\n")) {
            if (line.matches(".*\\bnew\\b.*")) {
                check.due("made anew: " + line.trim(), allowed.matcher(line).matches() ? 0 : 1, 0);
            }
        }
    }

    private static long count(String text, String pattern) {
        return Pattern.compile(pattern).matcher(text).results().count();
    }

    private static void checkMethods(Check check, String bare) {
        Matcher m = Pattern.compile("\\n( +)[\\w\\[\\] ]*?(\\w+)\\(([^)]*)\\) \\{\\n").matcher(bare);
        while (m.find()) {
            if (m.group(1).length() != 4 && m.group(1).length() != 8 || m.group(2).matches("if|for|while|switch")) {
                continue;
            }
            int end = bare.indexOf("\n" + m.group(1) + "}", m.end() - 1);
            long lines = bare.substring(m.end(), end).lines().count();
            check.due(m.group(2) + " is short", lines <= 60 ? 1 : 0, 1);
            long parameters = m.group(3).isBlank() ? 0 : m.group(3).split(",").length;
            check.due(m.group(2) + " has few parameters", parameters <= 7 ? 1 : 0, 1);
        }
    }
}
