import java.lang.reflect.Method;
import java.util.ArrayList;
import java.util.Arrays;
import java.util.Comparator;
import java.util.List;
import java.util.Random;

/** Runs of calls by lot (always the same ones): the class answers as the model does. */
public final class FuzzTest {
    private static final int CALLS = 512;
    private static final String[] WORDS = {"good", "twin", "living", "goat", "sealed", "royal", "if",
        "or", "and", "not", "more", "less", "free", "gap", "day", "cloth", "worth", "number", "<",
        "=", ">", "(", ")", ";", "0", "7", "999", "1000", "9999", "12345", "x", "-", " ", "Z"};
    private static final String[] KINDS = {"good", "twin", "living", "goat", "sealed", "royal"};
    private static final String[] FACTS = {"gap", "day", "cloth", "worth", "number"};

    private final Check check = new Check("FuzzTest");
    private final Method[] ours = faceOf(UnlikeNeighbours.class);
    private final Method[] theirs = faceOf(Model.class);
    private Random lot;

    private static Method[] faceOf(Class<?> type) {
        List<Method> face = new ArrayList<>();
        for (Method m : type.getDeclaredMethods()) {
            if (java.lang.reflect.Modifier.isPublic(m.getModifiers())) {
                face.add(m);
            }
        }
        face.sort(Comparator.comparing(Method::getName));
        return face.toArray(new Method[0]);
    }

    public static void main(String[] args) throws Exception {
        FuzzTest test = new FuzzTest();
        int runs = Integer.getInteger("runs", 400);
        int first = Integer.getInteger("first", 1);
        for (int run = first; run < first + runs; run++) {
            test.run(run);
        }
        test.check.end();
    }

    private void run(int run) throws Exception {
        lot = new Random(run);
        UnlikeNeighbours x = new UnlikeNeighbours();
        Model y = new Model();
        // Some runs fill the shed first; the others grow as it comes.
        int atFirst = run % 4 == 0 ? 0 : 3 + lot.nextInt(7);
        for (int k = 0; k < CALLS; k++) {
            int i = k < atFirst ? indexOf("good") : lot.nextInt(ours.length);
            if (k >= atFirst && lot.nextInt(12) == 0) {
                i = indexOf("feed");
            }
            if (ours[i].getName().equals("feed") && lot.nextInt(3) > 0) {
                k += text(run, x, y);
                continue;
            }
            Object[] values = valuesFor(ours[i]);
            int got = (Integer) ours[i].invoke(x, values);
            int want = (Integer) theirs[i].invoke(y, values);
            check.due("run " + run + " call " + k + " " + ours[i].getName()
                + Arrays.toString(values), got, want);
        }
    }

    private int indexOf(String name) {
        for (int i = 0; i < ours.length; i++) {
            if (ours[i].getName().equals(name)) {
                return i;
            }
        }
        throw new IllegalStateException(name);
    }

    // Feeds a whole text, and mostly has it read.
    private int text(int run, UnlikeNeighbours x, Model y) {
        String text = lot.nextInt(4) == 0 ? words() : rules();
        if (lot.nextInt(3) == 0 && !text.isEmpty()) {
            int at = lot.nextInt(text.length());
            String[] worse = {text.substring(0, at), text.substring(at),
                text.substring(0, at) + (char) lot.nextInt(256) + text.substring(at),
                text.substring(0, at) + WORDS[lot.nextInt(WORDS.length)] + text.substring(at)};
            text = worse[lot.nextInt(worse.length)];
        }
        int calls = 0;
        for (int from = 0; from < text.length(); from += 8) {
            long eight = lot.nextLong();
            int n = Math.min(8, text.length() - from);
            for (int k = 0; k < n; k++) {
                eight &= ~(255L << 8 * k);
                eight |= (long) text.charAt(from + k) << 8 * k;
            }
            check.due("run " + run + " feed of " + text, x.feed(eight, n), y.feed(eight, n));
            calls++;
        }
        if (lot.nextInt(8) > 0) {
            check.due("run " + run + " rules of " + text, x.rules(), y.rules());
        }
        return calls;
    }

    private String words() {
        StringBuilder text = new StringBuilder();
        for (int k = lot.nextInt(9); k >= 0; k--) {
            text.append(WORDS[lot.nextInt(WORDS.length)]).append(lot.nextInt(3) > 0 ? " " : "");
        }
        return text.toString();
    }

    private String rules() {
        StringBuilder text = new StringBuilder();
        for (int k = lot.nextInt(lot.nextInt(5) == 0 ? 12 : 4); k >= 0; k--) {
            text.append(KINDS[lot.nextInt(6)]).append(' ');
            if (lot.nextInt(3) > 0) {
                text.append("if ");
                condition(text, 0);
                text.append(' ');
            }
            int what = lot.nextInt(5);
            int n = lot.nextInt(lot.nextInt(6) == 0 ? 1200 : 200);
            text.append(what == 0 ? "free" : (what % 2 == 0 ? "more " : "less ") + n);
            text.append(lot.nextBoolean() ? ";" : " ; ");
        }
        return text.toString();
    }

    private void condition(StringBuilder text, int open) {
        for (int k = lot.nextInt(3); k >= 0; k--) {
            for (int m = lot.nextInt(4) / 2; m > 0; m--) {
                text.append("not ");
            }
            if (open < 4 && lot.nextInt(3) == 0) {
                text.append("(");
                condition(text, open + 1);
                text.append(")");
            } else {
                text.append(value()).append("<=>".charAt(lot.nextInt(3))).append(value());
            }
            if (k > 0) {
                text.append(lot.nextBoolean() ? " and " : " or ");
            }
        }
    }

    private String value() {
        if (lot.nextInt(3) > 0) {
            return FACTS[lot.nextInt(5)];
        }
        return String.valueOf(lot.nextInt(lot.nextInt(3) == 0 ? 12000 : 10));
    }

    private Object[] valuesFor(Method m) {
        Class<?>[] types = m.getParameterTypes();
        Object[] values = new Object[types.length];
        for (int i = 0; i < values.length; i++) {
            values[i] = types[i] == long.class ? (Object) lot.nextLong() : (Object) number(m, i);
        }
        return values;
    }

    private int number(Method m, int i) {
        if (lot.nextInt(25) == 0) {
            int[] odd = {-1, -2, 9, 10, 13, 40, 41, 255, -300, 1000, Integer.MAX_VALUE,
                Integer.MIN_VALUE, lot.nextInt()};
            return odd[lot.nextInt(odd.length)];
        }
        switch (m.getName() + i) {
            case "good0": case "remake1": return 1 + lot.nextInt(5);
            case "good1": return lot.nextInt(3);
            case "good2": return lot.nextInt(lot.nextInt(2) == 0 ? 3 : 10);
            case "good3": return 1 + lot.nextInt(999);
            case "goodOf1": case "many0": return lot.nextInt(7);
            case "change1": return 2 + lot.nextInt(2);
            case "change2": return lot.nextInt(10);
            case "let0": case "report1": return lot.nextInt(2);
            case "let1": return lot.nextInt(5);
            case "feed1": return 1 + lot.nextInt(8);
            case "span0": case "row1": case "alterRow1": return lot.nextInt(3);
            case "alterRow2": return lot.nextInt(9);
            case "seed0": case "act2": return lot.nextInt();
            case "often0": return 1 + lot.nextInt(60);
            case "sheet0": case "write0": case "item0": case "goes0": case "goats0":
            case "shelf0": case "taken0": case "act0": case "act1": return lot.nextInt(4);
            case "sheet1": return lot.nextInt(3) == 0 ? lot.nextInt(6) - 1 : 0;
            case "sheet2": return lot.nextInt(12);
            case "item1": return lot.nextInt(5);
            case "write2": return lot.nextInt(3) == 0 ? lot.nextInt(70000) - 35000 : lot.nextInt(9);
            case "write1": case "item2": case "goes1": case "goats1": return lot.nextInt(8);
            case "goes2": case "goats2": return lot.nextInt(5);
            case "shelf1": return lot.nextInt(4) == 0 ? 2 : lot.nextInt(2);
            case "shelf2": return lot.nextInt(5);
            case "taken1": return lot.nextBoolean() ? lot.nextInt(6) : 10 + lot.nextInt(5);
            default: return lot.nextInt(10);
        }
    }
}
