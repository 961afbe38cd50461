import java.lang.reflect.Constructor;
import java.lang.reflect.Field;
import java.lang.reflect.Method;
import java.lang.reflect.Modifier;
import java.util.Set;
import java.util.TreeSet;

/** The class shows the document's face and nothing else. */
public final class FaceTest {
    private static final String[] FACE = {
        "good int int int int", "goodOf int int", "change int int int", "remake int int",
        "let int int", "feed long int", "rules", "beside int int", "mates int", "may", "tops",
        "go int", "come", "line int", "paid", "ways", "way int", "longest", "far int", "cheapest",
        "cheap int", "never", "best", "goat", "gapFor", "game", "play", "report int int",
        "forget", "span int", "liar", "seed int", "draw", "often int", "prove", "row int int",
        "alterRow int int int", "judge", "sheet int int int", "write int int int",
        "item int int int", "goes int int int", "goats int int int", "shelf int int int",
        "taken int int", "act int int int", "trace int", "many int", "keep", "again"};

    public static void main(String[] args) {
        Check check = new Check("FaceTest");
        Class<?> it = UnlikeNeighbours.class;
        check.due("public final", Modifier.isPublic(it.getModifiers())
            && Modifier.isFinal(it.getModifiers()) ? 1 : 0, 1);
        Set<String> methods = new TreeSet<>();
        Set<String> hidden = new TreeSet<>();
        for (Method m : it.getDeclaredMethods()) {
            if (Modifier.isPrivate(m.getModifiers())) {
                hidden.add(m.getName());
                continue;
            }
            StringBuilder text = new StringBuilder(m.getName());
            for (Class<?> type : m.getParameterTypes()) {
                text.append(' ').append(type.getName());
            }
            methods.add(text.toString());
            check.due("public int " + m.getName(), Modifier.isPublic(m.getModifiers())
                && !Modifier.isStatic(m.getModifiers()) && m.getReturnType() == int.class ? 1 : 0, 1);
        }
        Set<String> face = new TreeSet<>(java.util.Arrays.asList(FACE));
        check.due("methods of the face: " + methods, methods.equals(face) ? 1 : 0, 1);
        for (String one : face) {
            String name = one.split(" ")[0];
            check.due("no private " + name, hidden.contains(name) ? 1 : 0, 0);
        }
        Set<String> fields = new TreeSet<>();
        for (Field f : it.getDeclaredFields()) {
            if (!Modifier.isPrivate(f.getModifiers())) {
                fields.add(f.getName());
            }
        }
        check.due("constants: " + fields,
            fields.equals(Set.of("BAD", "FULL", "NONE", "STATE")) ? 1 : 0, 1);
        Constructor<?>[] made = it.getDeclaredConstructors();
        check.due("constructors", made.length, 1);
        check.due("its parameters", made[0].getParameterCount(), 0);
        check.due("BAD", UnlikeNeighbours.BAD, -1);
        check.due("FULL", UnlikeNeighbours.FULL, -2);
        check.due("NONE", UnlikeNeighbours.NONE, -3);
        check.due("STATE", UnlikeNeighbours.STATE, -4);
        check.end();
    }
}
