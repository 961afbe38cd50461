import java.io.IOException;
import java.lang.reflect.Method;
import java.nio.file.Files;
import java.nio.file.Path;
import java.util.regex.Matcher;
import java.util.regex.Pattern;

/** The calls that README.md shows, one behind the other, answer what it tells behind them. */
public final class ReadmeTest {
    private static final Pattern BLOCK = Pattern.compile("(?s)```java\\n(.*?)```");
    private static final Pattern MADE = Pattern.compile("UnlikeNeighbours shed = new UnlikeNeighbours\\(\\);");
    private static final Pattern CALLED = Pattern.compile("shed\\.(\\w+)\\(([-\\d, ]*)\\); +// (-?\\d+): .+");
    private static final Pattern TOLD = Pattern.compile("tell\\(shed, \"([^\"]*)\"\\); +// (-?\\d+): .+");

    private final Check check = new Check("ReadmeTest");
    private UnlikeNeighbours shed;

    public static void main(String[] args) throws IOException, ReflectiveOperationException {
        ReadmeTest test = new ReadmeTest();
        Matcher block = BLOCK.matcher(Files.readString(Path.of(args[3])));
        while (block.find()) {
            // The help that tells a text is no row of calls.
            if (!block.group(1).startsWith("static ")) {
                for (String line : block.group(1).split("\n")) {
                    test.run(line);
                }
            }
        }
        test.check.end();
    }

    private void run(String line) throws ReflectiveOperationException {
        Matcher called = CALLED.matcher(line);
        Matcher told = TOLD.matcher(line);
        if (MADE.matcher(line).matches()) {
            shed = new UnlikeNeighbours();
        } else if (called.matches()) {
            check.due(line, answer(called.group(1), called.group(2)), Integer.parseInt(called.group(3)));
        } else if (told.matches()) {
            check.due(line, Edge.told(shed, told.group(1)), Integer.parseInt(told.group(2)));
        } else {
            check.due("a line that is no call with its answer: " + line, 1, 0);
        }
    }

    private int answer(String name, String numbers) throws ReflectiveOperationException {
        String[] told = numbers.isBlank() ? new String[0] : numbers.split(", ");
        Class<?>[] types = new Class<?>[told.length];
        Object[] values = new Object[told.length];
        for (int i = 0; i < told.length; i++) {
            types[i] = int.class;
            values[i] = Integer.valueOf(told[i]);
        }
        Method call = UnlikeNeighbours.class.getMethod(name, types);
        return (Integer) call.invoke(shed, values);
    }
}
