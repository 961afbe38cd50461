import java.io.IOException;
import java.util.function.IntUnaryOperator;

/** Tests of sentences: says() tells the sentence for which the answers behind it are asked. */
final class Edge {
    static final int BAD = -1, FULL = -2, NONE = -3, STATE = -4;
    static final int TWIN = 1, LIVING = 2, GOAT = 3, SEALED = 4, ROYAL = 5;
    // Numbers far outside, some of which a shift or a narrowing would bring back inside.
    private static final int[] FAR = {Integer.MIN_VALUE, Integer.MIN_VALUE + 1, -65536, -65535, -256,
        -255, -64, -33, -32, -31, -10, -9, -3, -2, -1, 10, 11, 32, 33, 34, 64, 65, 256, 257, 258, 1000,
        65536, 65537, 1 << 30, Integer.MAX_VALUE - 1, Integer.MAX_VALUE};

    private final String name;
    private final Document document;
    private String sentence = "";
    private int sentences;
    private int asked;
    private int askedOfIt;
    private int wrong;

    Edge(String name, String[] args) throws IOException {
        this.name = name;
        document = new Document(args[1]);
    }

    void says(int part, String words) {
        endOfSentence();
        sentence = (part == Document.TERMS ? "Terms" : "Promise " + part) + ": " + words;
        sentences++;
        askedOfIt = 0;
        if (!document.part(part).contains(words)) {
            isWrong("the document doesn't say so");
        }
    }

    private void endOfSentence() {
        if (sentences > 0 && askedOfIt == 0) {
            isWrong("nothing is asked for it");
        }
    }

    private void isWrong(String how) {
        wrong++;
        System.out.println(name + ": " + sentence + "\n    " + how);
    }

    void due(String call, long got, long want) {
        asked++;
        askedOfIt++;
        if (got != want) {
            isWrong(call + " answered " + got + ", due is " + want);
        }
    }

    void due(String call, String got, String want) {
        due(call + ":\n    " + got + "\n    due is\n    " + want + "\n    unlike", got.equals(want) ? 0 : 1, 0);
    }

    /** The answers for 0, 1, 2 .. are the wanted ones. */
    void inTurn(String call, IntUnaryOperator ask, int... wanted) {
        for (int i = 0; i < wanted.length; i++) {
            due(call + " of " + i, ask.applyAsInt(i), wanted[i]);
        }
    }

    /** Whatever is not least to most gets the one answer. */
    void outside(String call, IntUnaryOperator ask, int least, int most, int want) {
        due(call + " of " + (least - 1), ask.applyAsInt(least - 1), want);
        due(call + " of " + (most + 1), ask.applyAsInt(most + 1), want);
        for (int v : FAR) {
            if (v < least || v > most) {
                due(call + " of " + v, ask.applyAsInt(v), want);
            }
        }
    }

    /** Ends the program, with exit code 1 if an answer was wrong. */
    void end() {
        endOfSentence();
        System.out.println(name + ": " + sentences + " sentences, " + asked + " answers, " + wrong
            + " not as due");
        if (wrong != 0 || asked == 0) {
            System.exit(1);
        }
    }

    // ---- helps to make what is asked

    /** Goods told by fours: KIND, BAY, CLOTH, WORTH. */
    static UnlikeNeighbours shed(int... told) {
        UnlikeNeighbours x = new UnlikeNeighbours();
        for (int i = 0; i + 3 < told.length; i += 4) {
            x.good(told[i], told[i + 1], told[i + 2], told[i + 3]);
        }
        return x;
    }

    /** Goods of these KINDS in bays 0, 1, 2, 0 .., each of the CLOTH of its number, of WORTH 10. */
    static UnlikeNeighbours kinds(int... kinds) {
        UnlikeNeighbours x = new UnlikeNeighbours();
        for (int i = 0; i < kinds.length; i++) {
            x.good(kinds[i], i % 3, i, 10);
        }
        return x;
    }

    /** As many of one KIND. */
    static UnlikeNeighbours all(int kind, int count) {
        int[] kinds = new int[count];
        java.util.Arrays.fill(kinds, kind);
        return kinds(kinds);
    }

    /** The goods go in this order, each as it MAY GO. */
    UnlikeNeighbours gone(UnlikeNeighbours x, int... order) {
        for (int g : order) {
            due("go(" + g + ") goes", x.go(g) >= 0 ? 1 : 0, 1);
        }
        return x;
    }

    /** A text's bytes come to THE TAPE, eight at a time. */
    static void feed(UnlikeNeighbours x, String text) {
        for (int from = 0; from < text.length(); from += 8) {
            int n = Math.min(8, text.length() - from);
            long eight = 0;
            for (int k = n - 1; k >= 0; k--) {
                eight = eight << 8 | text.charAt(from + k) & 255;
            }
            x.feed(eight, n);
        }
    }

    static int told(UnlikeNeighbours x, String text) {
        feed(x, text);
        return x.rules();
    }

    /** A SHEET becomes a row of a sort with these items. */
    static void sheet(UnlikeNeighbours x, int sheet, int sort, int... items) {
        x.sheet(sheet, sort, items.length);
        for (int i = 0; i < items.length; i++) {
            x.write(sheet, i, items[i]);
        }
    }
}
