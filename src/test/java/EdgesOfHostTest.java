import java.io.IOException;

/** The Terms' part 3 on things, SHEETS and SHELVES, promises 40 to 49. */
public final class EdgesOfHostTest {
    private static final int BAD = Edge.BAD, NONE = Edge.NONE, STATE = Edge.STATE;
    private static final int TWIN = Edge.TWIN, LIVING = Edge.LIVING, GOAT = Edge.GOAT,
        SEALED = Edge.SEALED, ROYAL = Edge.ROYAL;
    private static final int NOTHING = -11, OUTSIDE = -12, OTHER = -13, BELOW = -14, BY_0 = -15;
    private static final int WEIGHS = 0, TURNS = 1, SPLITS = 2, TELLS = 3;
    private static final int[] VALUES = {0, 1, -1, 2, 7, -15, 100, 127, 128, -128, -129, 255, 256, 32767, 32768,
        -32768, -32769, 65535, 65536, 98304, 1 << 30, 1431655765, 1431655766, -715827883,
        Integer.MAX_VALUE, Integer.MAX_VALUE - 1, Integer.MIN_VALUE, Integer.MIN_VALUE + 1};
    // The bodies that run, by KIND and act.
    private static final int[][][] BODIES = {{},
        {{20, 10}, {11, 20, 10}, {12}, {13, 11, 20, 10}},
        {{10}, {30, 11, 10}, {12}, {13, 30, 11, 10}},
        {{50, 10}, {30, 11, 50, 10}, {12}, {51, 13, 30, 11, 50, 10, 12}},
        {{10}, {11, 10}, {40, 12}, {13, 11, 10}},
        {{10}, {60, 11, 10}, {61, 40, 12, 10}, {13, 60, 11, 10}}};

    private final Edge e;

    private EdgesOfHostTest(String[] args) throws IOException {
        e = new Edge("EdgesOfHostTest", args);
    }

    public static void main(String[] args) throws IOException {
        EdgesOfHostTest test = new EdgesOfHostTest(args);
        test.termsOfActs();
        test.termsOfBodies();
        test.termsOfSheetsAndShelves();
        test.sheet40();
        test.write41();
        test.item42();
        test.goes43();
        test.goats44();
        test.shelf45();
        test.taken46();
        test.act47();
        test.trace48AndMany49();
        test.e.end();
    }

    // ---- what a thing's acts come to

    private static int weighed(int kind, int n, int a, int x) {
        return kind == TWIN ? (x - n) * 2 : kind == GOAT ? (x - n) ^ a : x - n;
    }

    private static int turned(int kind, int n, int a, int x) {
        int turned = weighed(kind, n, a, x) * 3;
        return kind == LIVING || kind == GOAT ? turned + a : kind == ROYAL ? -turned : turned;
    }

    private static int split(int kind, int n, int a, int x) {
        int part = (int) ((kind >= SEALED ? x - 1 : x) / (long) (a - n));
        return kind == ROYAL ? part + (a - n) : part;
    }

    private static int answerOf(int act, int kind, int n, int a, int x) {
        boolean parts = act == SPLITS || act == TELLS && kind == GOAT;
        if (parts && a == n) {
            return BY_0;
        }
        switch (act) {
            case WEIGHS: return weighed(kind, n, a, x);
            case TURNS: return turned(kind, n, a, x);
            case SPLITS: return split(kind, n, a, x);
            default:
                int told = turned(kind, n, a, x) ^ a;
                return kind == GOAT ? told - split(kind, n, a, n) : told;
        }
    }

    /** A shed of so many goods, the last one of this KIND and CLOTH, and on SHELF 0. */
    private static UnlikeNeighbours held(int n, int kind, int a) {
        UnlikeNeighbours x = Edge.all(LIVING, n);
        x.good(kind, 0, a, 1);
        x.shelf(0, 0, n);
        return x;
    }

    private void acts(int kind, int act, int[] numbers, int[] cloths, int[] with) {
        for (int n : numbers) {
            for (int a : cloths) {
                UnlikeNeighbours x = held(n, kind, a);
                for (int v : with) {
                    String call = "act " + act + " of KIND " + kind + ", n " + n + ", a " + a + ", with " + v;
                    e.due(call, x.act(0, act, v), answerOf(act, kind, n, a, v));
                    traceIs(call, x, act == SPLITS && kind == ROYAL && a == n
                        ? new int[] {61, 40, 12} : BODIES[kind][act]);
                }
            }
        }
    }

    private void traceIs(String call, UnlikeNeighbours x, int... bodies) {
        e.due("bodies of " + call, x.many(6), bodies.length);
        for (int i = 0; i <= bodies.length; i++) {
            e.due("trace " + i + " of " + call, x.trace(i), i < bodies.length ? bodies[i] : NONE);
        }
    }

    private void termsOfActs() {
        e.says(0, "ACTS of a thing by its KIND, with a number x (ints that wrap): 0 weighs, 1 turns, 2 splits,"
            + " 3 tells.");
        int[] numbers = {0, 1, 8}, cloths = {0, 1, 7, 9};
        for (int kind = TWIN; kind <= ROYAL; kind++) {
            for (int act = WEIGHS; act <= TELLS; act++) {
                acts(kind, act, numbers, cloths, VALUES);
            }
        }
        e.due("less than the least int", held(8, SEALED, 0).act(0, WEIGHS, Integer.MIN_VALUE), 2147483640);
        e.due("twice the greatest int", held(0, TWIN, 0).act(0, WEIGHS, Integer.MAX_VALUE), -2);
        e.due("thrice", held(0, SEALED, 0).act(0, TURNS, 1431655765), -1);
        e.due("thrice and CLOTH", held(0, LIVING, 9).act(0, TURNS, 715827882), -2147483641);
        e.due("0 less the least int", held(0, ROYAL, 0).act(0, TURNS, Integer.MIN_VALUE), Integer.MIN_VALUE);
        e.due("the least int by -1", held(1, LIVING, 0).act(0, SPLITS, Integer.MIN_VALUE), Integer.MIN_VALUE);
        e.due("1 less than the least int", held(0, SEALED, 1).act(0, SPLITS, Integer.MIN_VALUE),
            Integer.MAX_VALUE);

        e.says(0, "A good is held as a thing of its KIND; n: its number, a: its CLOTH. BODIES, each with its"
            + " number:");
        for (int n = 0; n <= 8; n++) {
            for (int a = 0; a <= 9; a++) {
                UnlikeNeighbours x = held(n, LIVING, a);
                e.due("n of " + n, x.act(0, WEIGHS, 0), -n);
                e.due("a of " + a, x.act(0, TURNS, n), a);
            }
        }
        UnlikeNeighbours x = held(2, LIVING, 4);
        x.remake(2, SEALED);
        e.due("of the KIND that it is now", x.act(0, SPLITS, 7), 3);
        traceIs("the KIND that it is now", x, 40, 12);
        x.change(2, 2, 5);
        e.due("of the CLOTH that it is now", x.act(0, SPLITS, 7), 2);
        x.let(0, 3);
        x.let(1, 9);
        e.gone(x, 2);
        e.due("one OUT is held, too", x.act(0, SPLITS, 7), 2);
    }

    private void termsOfBodies() {
        int[] all = {0, 1, 2, 3, 4, 5, 6, 7, 8}, cloths = {0, 1, 2, 3, 4, 5, 6, 7, 8, 9};
        int[] with = {0, 1, -1, 10, -10, 100, -101, Integer.MAX_VALUE, Integer.MIN_VALUE};
        e.says(0, "good: 10 weighs: x - n. 11 turns: weighs(x) * 3. 12 splits: x by (a - n), the rest away (-15"
            + " if these are the same; that is all that act() answers then). 13 tells: turns(x) ^ a.");
        acts(SEALED, WEIGHS, all, cloths, with);
        acts(SEALED, TURNS, all, cloths, with);
        acts(LIVING, SPLITS, all, cloths, with);
        acts(SEALED, TELLS, all, cloths, with);
        for (int n = 0; n <= 8; n++) {
            for (int v : VALUES) {
                e.due("by 0", held(n, LIVING, n).act(0, SPLITS, v), BY_0);
            }
        }
        e.due("the rest away", held(0, TWIN, 7).act(0, SPLITS, 13), 1);
        e.due("the rest away, below 0", held(0, TWIN, 7).act(0, SPLITS, -13), -1);
        e.due("by a number below 0", held(8, TWIN, 1).act(0, SPLITS, 13), -1);
        e.due("both below 0", held(8, TWIN, 1).act(0, SPLITS, -13), 1);
        e.due("-15 as an answer of its own", held(0, TWIN, 1).act(0, SPLITS, -15), -15);

        e.says(0, "twin: 20 weighs: super.weighs(x) * 2. living: 30 turns: super.turns(x) + a. sealed: 40 splits:"
            + " super.splits(x - 1). goat: 50 weighs: super.weighs(x) ^ a. 51 tells: super.tells(x) - splits(n)."
            + " royal: 60 turns: 0 - super.turns(x). 61 splits: super.splits(x) + weighs(a).");
        for (int kind = TWIN; kind <= ROYAL; kind++) {
            for (int act = WEIGHS; act <= TELLS; act++) {
                acts(kind, act, all, cloths, with);
            }
        }

        e.says(0, "THE TRACE: numbers of the bodies that ran in the latest act(), as they began (left first);"
            + " the first 30 are kept.");
        UnlikeNeighbours x = Edge.kinds(TWIN, LIVING, GOAT, SEALED, ROYAL);
        for (int round = 0; round < 6; round++) {
            for (int g = 0; g < 5; g++) {
                x.shelf(round % 4, 0, g);
                x.change(g, 2, 9);
                x.act(round % 4, TELLS, 10);
                traceIs("the latest act() alone", x, BODIES[g + 1][TELLS]);
            }
        }
        x.change(2, 2, 2);
        x.shelf(0, 0, 2);
        e.due("parted by 0 at last", x.act(0, TELLS, 10), BY_0);
        traceIs("what ran till then", x, 51, 13, 30, 11, 50, 10, 12);
        x.change(4, 2, 4);
        x.shelf(0, 0, 4);
        e.due("parted by 0 midway", x.act(0, SPLITS, 10), BY_0);
        traceIs("what ran till then", x, 61, 40, 12);
        e.due("the next act() is as ever", x.act(0, WEIGHS, 10), 6);
        traceIs("the next act()", x, 10);
    }

    private void termsOfSheetsAndShelves() {
        e.says(0, "SHEETS 0 to 3 are rows of bytes (sort 0), shorts (1), ints (2), longs (3) or booleans (4), 40"
            + " at most, or missing (at first).");
        for (int sheet = 0; sheet < 4; sheet++) {
            UnlikeNeighbours x = new UnlikeNeighbours();
            for (int other = 0; other < 4; other++) {
                e.due("missing at first", x.item(other, 0, 0), NOTHING);
            }
            for (int sort = 0; sort < 5; sort++) {
                e.due("sheet", x.sheet(sheet, sort, 40), 1);
                for (int as = 0; as < 5; as++) {
                    e.due("sort " + sort + " as " + as, x.item(sheet, as, 39), as == sort ? 0 : OTHER);
                }
                e.due("the 40th is the last", x.item(sheet, sort, 40), OUTSIDE);
                for (int other = 0; other < 4; other++) {
                    if (other != sheet) {
                        e.due("the others are missing", x.item(other, sort, 0), NOTHING);
                    }
                }
            }
        }
        UnlikeNeighbours each = new UnlikeNeighbours();
        for (int sheet = 0; sheet < 4; sheet++) {
            Edge.sheet(each, sheet, sheet, 10 + sheet, 20 + sheet);
        }
        for (int sheet = 0; sheet < 4; sheet++) {
            e.due("each has its own", each.item(sheet, sheet, 0) * 100 + each.item(sheet, sheet, 1),
                1020 + 101 * sheet);
        }

        e.says(0, "SHELVES 0 to 3 hold a good (by its number; nothing, if there is no such one at the time), a"
            + " SHEET's row, or nothing (at first).");
        UnlikeNeighbours x = Edge.all(LIVING, 4);
        x.sheet(0, 2, 7);
        for (int shelf = 0; shelf < 4; shelf++) {
            for (int other = shelf; other < 4; other++) {
                e.due("nothing at first", x.taken(other, 0), NOTHING);
                e.due("nothing at first", x.taken(other, 12), NOTHING);
                e.due("nothing acts", x.act(other, WEIGHS, 50), 0);
            }
            x.shelf(shelf, 0, 3 - shelf);
        }
        e.inTurn("each has its own: SHELF", s -> x.taken(s, 0), 3, 2, 1, 0, BAD);
        x.shelf(2, 1, 0);
        e.due("a row", x.taken(2, 12), 7);
        e.inTurn("the others hold goods: SHELF", s -> x.taken(s, 0), 3, 2, OTHER, 0);
        UnlikeNeighbours kept = Edge.all(LIVING, 2);
        kept.keep();
        kept.good(GOAT, 0, 5, 1);
        kept.shelf(3, 0, 2);
        kept.shelf(1, 0, 1);
        e.due("a good", kept.taken(3, 0) * 10 + kept.taken(3, GOAT), 22);
        kept.again();
        e.due("no such one at the time", kept.taken(3, 0), NOTHING);
        e.due("nor as a row", kept.taken(3, 10), NOTHING);
        e.due("nor to act", kept.act(3, WEIGHS, 50), 0);
        e.due("the one that is there still", kept.taken(1, 0), 1);
        kept.good(ROYAL, 0, 7, 1);
        e.due("such a one again", kept.taken(3, ROYAL), 2);
        e.due("which acts", kept.act(3, WEIGHS, 50), 48);
    }

    // ---- sheets

    private void sheet40() {
        e.says(40, "A SHEET becomes a row of n of a sort, all 0, or missing (sort -1; n counts nothing then): 1.");
        for (int sort = 0; sort < 5; sort++) {
            UnlikeNeighbours made = new UnlikeNeighbours();
            for (int n : new int[] {0, 1, 2, 39, 40}) {
                e.due("sheet", made.sheet(1, sort, n), 1);
                for (int i = 0; i < n; i++) {
                    e.due("item " + i + " of " + n, made.item(1, sort, i), 0);
                }
                e.due("item " + n + " of " + n, made.item(1, sort, n), OUTSIDE);
                if (n > 0) {
                    made.write(1, n - 1, 1);
                    made.write(1, 0, 1);
                }
                e.due("sheet again", made.sheet(1, sort, n), 1);
                e.due("all 0 again", n > 0 ? made.item(1, sort, n - 1) + made.item(1, sort, 0) : 0, 0);
            }
        }
        UnlikeNeighbours x = new UnlikeNeighbours();
        Edge.sheet(x, 2, 2, 5, 6, 7);
        x.sheet(2, 2, 1);
        x.sheet(2, 2, 3);
        e.due("none of it comes back", x.item(2, 2, 1) + x.item(2, 2, 2), 0);
        for (int n : new int[] {0, 1, 40, 41, -1, Integer.MAX_VALUE, Integer.MIN_VALUE}) {
            x.sheet(1, 2, 5);
            e.due("missing with n " + n, x.sheet(1, -1, n), 1);
            e.due("missing", x.item(1, 2, 0), NOTHING);
            e.due("missing again", x.sheet(1, -1, n), 1);
        }

        e.says(40, "BAD: no such SHEET, sort, n above 40; -14.");
        UnlikeNeighbours y = new UnlikeNeighbours();
        Edge.sheet(y, 0, 2, 5, 6);
        e.outside("SHEET", s -> y.sheet(s, 2, 1), 0, 3, BAD);
        e.outside("SHEET, to be missing", s -> y.sheet(s, -1, 1), 0, 3, BAD);
        e.outside("SHEET ahead of -14", s -> y.sheet(s, 2, -1), 0, 3, BAD);
        e.outside("sort", sort -> y.sheet(0, sort, 1), -1, 4, BAD);
        e.outside("sort ahead of -14", sort -> y.sheet(0, sort, -1), -1, 4, BAD);
        e.due("it stayed", y.item(0, 2, 0) * 10 + y.item(0, 2, 1), 56);
        for (int sort = 0; sort < 5; sort++) {
            UnlikeNeighbours z = new UnlikeNeighbours();
            Edge.sheet(z, 0, 2, 5, 6);
            int its = sort;
            e.outside("n above", n -> z.sheet(0, its, n), Integer.MIN_VALUE, 40, BAD);
            for (int n : new int[] {-1, -2, -14, -41, -256, Integer.MIN_VALUE}) {
                e.due("n " + n, z.sheet(0, sort, n), BELOW);
            }
            e.due("it stayed", z.item(0, 2, 0) * 10 + z.item(0, 2, 1), 56);
            e.due("it stayed", z.item(0, 2, 2), OUTSIDE);
        }
    }

    private static int narrowed(int sort, int v) {
        switch (sort) {
            case 0: return (byte) v;
            case 1: return (short) v;
            case 4: return v == 0 ? 0 : 1;
            default: return v;
        }
    }

    private void write41() {
        e.says(41, "Item i becomes v, narrowed to its sort (booleans: whether it is not 0): 1.");
        for (int sort = 0; sort < 5; sort++) {
            UnlikeNeighbours x = new UnlikeNeighbours();
            x.sheet(3, sort, 40);
            for (int v : VALUES) {
                int want = narrowed(sort, v);
                for (int i : new int[] {0, 1, 39}) {
                    e.due("write", x.write(3, i, v), 1);
                    e.due("sort " + sort + " item " + i + " of " + v, x.item(3, sort, i), want);
                }
                e.due("one beside it", x.item(3, sort, 38), 0);
            }
        }

        e.says(41, "BAD: no such SHEET; -11; -12.");
        UnlikeNeighbours y = new UnlikeNeighbours();
        e.outside("SHEET", s -> y.write(s, 0, 1), 0, 3, BAD);
        e.outside("item of one missing", i -> y.write(0, i, 1), 0, -1, NOTHING);
        y.sheet(0, 2, 40);
        y.sheet(1, 0, 1);
        y.sheet(2, 4, 0);
        e.outside("item of 40", i -> y.write(0, i, 1), 0, 39, OUTSIDE);
        e.outside("item of 1", i -> y.write(1, i, 1), 0, 0, OUTSIDE);
        e.outside("item of none", i -> y.write(2, i, 1), 0, -1, OUTSIDE);
        e.outside("SHEET ahead of -12", s -> y.write(s, -1, 1), 0, 3, BAD);
        for (int i = 0; i < 40; i++) {
            e.due("nothing was written", y.item(0, 2, i), 0);
        }
        y.sheet(0, -1, 0);
        e.due("missing again", y.write(0, 0, 1), NOTHING);
    }

    private void item42() {
        e.says(42, "Item i, taken for a sort (0 to 4; of longs the lowest 32 bits; of booleans 1, 0).");
        UnlikeNeighbours x = new UnlikeNeighbours();
        Edge.sheet(x, 0, 3, Integer.MIN_VALUE, Integer.MAX_VALUE, -1, 0, 1 << 31);
        e.inTurn("longs", i -> x.item(0, 3, i), Integer.MIN_VALUE, Integer.MAX_VALUE, -1, 0, Integer.MIN_VALUE,
            OUTSIDE);
        Edge.sheet(x, 0, 4, 0, 1, -1, 2, 256, Integer.MIN_VALUE, 0);
        e.inTurn("booleans", i -> x.item(0, 4, i), 0, 1, 1, 1, 1, 1, 0, OUTSIDE);

        e.says(42, "BAD: no such SHEET, sort; -13; -11; -12.");
        UnlikeNeighbours none = new UnlikeNeighbours();
        e.outside("SHEET", s -> none.item(s, 0, 0), 0, 3, BAD);
        e.outside("sort of one missing", sort -> none.item(0, sort, 0), 0, 4, BAD);
        for (int sort = 0; sort < 5; sort++) {
            int its = sort;
            UnlikeNeighbours y = new UnlikeNeighbours();
            e.outside("item of one missing", i -> y.item(0, its, i), 0, -1, NOTHING);
            y.sheet(0, sort, 40);
            e.outside("item of 40", i -> y.item(0, its, i), 0, 39, OUTSIDE);
            e.outside("item ahead of which there is another sort", i -> y.item(0, (its + 1) % 5, i), 0, -1, OTHER);
            e.outside("sort", other -> y.item(0, other, 0), 0, 4, BAD);
            e.outside("sort ahead of -12", other -> y.item(0, other, 40), 0, 4, BAD);
            e.outside("SHEET ahead of -12", s -> y.item(s, its, 40), 0, 3, BAD);
            y.sheet(0, sort, 0);
            e.outside("item of none", i -> y.item(0, its, i), 0, -1, OUTSIDE);
            e.due("another sort of none", y.item(0, (sort + 1) % 5, 0), OTHER);
        }

        e.says(42, "(An item may be as low as these, too.)");
        UnlikeNeighbours y = new UnlikeNeighbours();
        for (int sort = 0; sort < 4; sort++) {
            Edge.sheet(y, 1, sort, -1, -2, -3, -4, -11, -12, -13, -14, -15);
            int its = sort;
            e.inTurn("item", i -> y.item(1, its, i), -1, -2, -3, -4, -11, -12, -13, -14, -15, OUTSIDE);
        }
    }

    // ---- goods by a sheet

    private void goes43() {
        e.says(43, "n (0 to 20) items of a SHEET taken for bytes, from item i on, are goods that go, one behind"
            + " the other (those that go() refuses are left out): how many went.");
        UnlikeNeighbours x = Edge.all(LIVING, 4);
        Edge.sheet(x, 0, 0, 1, 3, 0, 2);
        e.due("none", x.goes(0, 0, 0), 0);
        e.due("none went", x.many(2), 0);
        e.due("one", x.goes(0, 0, 1), 1);
        e.due("two from 1 on", x.goes(0, 1, 2), 2);
        e.inTurn("line", x::line, 1, 3, 0, NONE);
        e.due("all, three of them OUT", x.goes(0, 0, 4), 1);
        e.inTurn("line", x::line, 1, 3, 0, 2, NONE);
        e.due("all OUT", x.goes(0, 0, 4), 0);
        UnlikeNeighbours y = Edge.all(LIVING, 4);
        Edge.sheet(y, 1, 0, 0, 9, 4, -1, -128, 127, 32, 33, 1, 2, 1, 0, 3, 2, 3, 0, 1, 0, 0, 2);
        // 0 is under 3; 2 came beside 1; then 3, 0 and 2 go as they may.
        e.due("twenty items, of which four go", y.goes(1, 0, 20), 4);
        e.inTurn("line", y::line, 1, 3, 0, 2, NONE);
        UnlikeNeighbours nine = Edge.all(GOAT, 9);
        nine.sheet(3, 0, 40);
        int[] order = {8, 5, 2, 7, 4, 1, 6, 3, 0};
        for (int i = 0; i < 9; i++) {
            nine.write(3, 31 + i, order[i]);
        }
        e.due("nine, to the end of forty", nine.goes(3, 31, 9), 9);
        e.inTurn("line", nine::line, order);
        UnlikeNeighbours last = Edge.all(GOAT, 1);
        Edge.sheet(last, 0, 0, 9, 9, 9, 9, 9, 9, 9, 9, 9, 9, 9, 9, 9, 9, 9, 9, 9, 9, 9, 0);
        e.due("the 20th goes", last.goes(0, 0, 20), 1);
        UnlikeNeighbours narrow = Edge.all(GOAT, 3);
        Edge.sheet(narrow, 0, 0, 256, 258);
        e.due("as bytes", narrow.goes(0, 0, 2), 2);
        e.inTurn("line", narrow::line, 0, 2, NONE);

        e.says(43, "BAD: no such SHEET, n; -13; -11; -12: what stood ahead was done.");
        UnlikeNeighbours z = Edge.all(GOAT, 9);
        e.outside("SHEET", s -> z.goes(s, 0, 1), 0, 3, BAD);
        e.outside("n of one missing", n -> z.goes(0, 0, n), 0, 20, BAD);
        e.due("missing", z.goes(0, 0, 1), NOTHING);
        e.due("missing, outside", z.goes(0, -1, 20), NOTHING);
        for (int sort = 1; sort < 5; sort++) {
            z.sheet(0, sort, 9);
            e.due("another sort", z.goes(0, 8, 1), OTHER);
            e.due("another sort, outside", z.goes(0, 9, 1), OTHER);
            e.outside("n of another sort", n -> z.goes(0, 0, n), 0, 20, BAD);
        }
        Edge.sheet(z, 0, 0, 8, 7, 6);
        e.outside("n", n -> z.goes(0, 0, n), 0, 20, BAD);
        e.outside("from item", i -> z.goes(0, i, 1), 0, 2, OUTSIDE);
        e.outside("twenty from item", i -> z.goes(0, i, 20), 0, 2, OUTSIDE);
        e.due("none has gone", z.many(2), 0);
        e.due("one stood ahead", z.goes(0, 2, 2), OUTSIDE);
        e.inTurn("line", z::line, 6, NONE);
        e.due("three stood ahead", z.goes(0, 0, 20), OUTSIDE);
        e.inTurn("line", z::line, 6, 8, 7, NONE);
        z.sheet(0, 0, 0);
        e.due("of no items", z.goes(0, 0, 1), OUTSIDE);
        e.due("none of no items", z.goes(0, 0, 0), 0);
    }

    private void goats44() {
        e.says(44, "n (0 to 9) items likewise are goods that shall go, one behind the other, from how it is now:"
            + " how many goats must go between (ahead of the first one, too) at least, that no two came BESIDE"
            + " one another that go one behind the other.");
        UnlikeNeighbours x = Edge.all(LIVING, 9);
        Edge.sheet(x, 2, 0, 8, 7, 6, 5, 4, 3, 2, 1, 0, 6, 8, 7, 3, 5, 4, 0, 2, 1);
        int[] between = {0, 0, 1, 2, 3, 4, 5, 6, 7, 8};
        for (int n = 0; n <= 9; n++) {
            e.due(n + " in a row", x.goats(2, 0, n), between[n]);
        }
        // 6 8 - 7 3 5 - 4 0 2 - 1: a goat but where two are 2 apart or more.
        e.due("nine, some apart", x.goats(2, 9, 9), 3);
        e.due("none went", x.many(2), 0);
        e.due("nothing ahead of the first one", x.goats(2, 1, 1), 0);
        e.gone(x, 8);
        e.due("one ahead of the first one", x.goats(2, 1, 1), 1);
        e.due("ahead of the first one, and between", x.goats(2, 1, 8), 8);
        e.due("none of none", x.goats(2, 1, 0), 0);
        x.let(0, 3);
        e.due("by GAP 3", x.goats(2, 13, 0) * 10 + x.goats(2, 2, 1), 1);
        UnlikeNeighbours goats = Edge.all(GOAT, 9);
        Edge.sheet(goats, 0, 0, 8, 7, 6, 5, 4, 3, 2, 1, 0);
        e.due("goats need none", goats.goats(0, 0, 9), 0);

        e.says(44, "BAD: no such SHEET, n; -13; -11; then, by items, -12; STATE: it is no good that is a TOP then.");
        UnlikeNeighbours y = Edge.all(LIVING, 4);
        e.outside("SHEET", s -> y.goats(s, 0, 1), 0, 3, BAD);
        e.outside("n of one missing", n -> y.goats(0, 0, n), 0, 9, BAD);
        e.due("missing", y.goats(0, 0, 1), NOTHING);
        e.due("missing, outside", y.goats(0, -1, 9), NOTHING);
        for (int sort = 1; sort < 5; sort++) {
            y.sheet(0, sort, 4);
            e.due("another sort", y.goats(0, 0, 1), OTHER);
            e.due("another sort, outside", y.goats(0, 4, 1), OTHER);
        }
        Edge.sheet(y, 0, 0, 3, 0, 2, 1);
        e.outside("n", n -> y.goats(0, 0, n), 0, 9, BAD);
        e.outside("from item", i -> y.goats(0, i, 1), 0, 3, OUTSIDE);
        e.outside("nine from item", i -> y.goats(0, i, 9), 0, 3, OUTSIDE);
        e.due("the fifth is outside", y.goats(0, 0, 5), OUTSIDE);
        e.due("four are not", y.goats(0, 0, 4), 1);
        e.due("0 is no TOP at first", y.goats(0, 1, 1), STATE);
        e.due("no TOP comes ahead of outside", y.goats(0, 1, 9), STATE);
        e.due("outside comes ahead of no TOP", y.goats(0, 2, 3), OUTSIDE);
        for (int v : new int[] {4, 9, -1, -128, 127, 32, 33, 34, 64}) {
            Edge.sheet(y, 1, 0, 3, v);
            e.due("no good " + v, y.goats(1, 0, 2), STATE);
            e.due("no good " + v + " at first", y.goats(1, 1, 1), STATE);
        }
        Edge.sheet(y, 1, 0, 3, 3);
        e.due("it went already", y.goats(1, 0, 2), STATE);
        e.gone(y, 1);
        Edge.sheet(y, 1, 0, 1);
        e.due("it is OUT", y.goats(1, 0, 1), STATE);
        Edge.sheet(y, 1, 0, 2);
        e.due("a TOP that may not go", y.goats(1, 0, 1), 1);
        e.due("one is OUT", y.many(2), 1);
        e.due("without goods", emptyWithBytes().goats(0, 0, 1), STATE);
    }

    private static UnlikeNeighbours emptyWithBytes() {
        UnlikeNeighbours x = new UnlikeNeighbours();
        x.sheet(0, 0, 1);
        return x;
    }

    // ---- shelves

    private void shelf45() {
        e.says(45, "A SHELF holds good n (what 0), the row of SHEET n (1; nothing, if missing), nothing (2): 1.");
        UnlikeNeighbours x = Edge.all(LIVING, 9);
        for (int shelf = 0; shelf < 4; shelf++) {
            for (int g = 0; g < 9; g++) {
                e.due("shelf", x.shelf(shelf, 0, g), 1);
                e.due("good", x.taken(shelf, 0), g);
            }
            for (int sheet = 0; sheet < 4; sheet++) {
                x.sheet(sheet, sheet, 10 * sheet);
                e.due("shelf", x.shelf(shelf, 1, sheet), 1);
                e.due("row", x.taken(shelf, 10 + sheet), 10 * sheet);
                x.sheet(sheet, -1, 0);
                e.due("shelf of one missing", x.shelf(shelf, 1, sheet), 1);
                e.due("nothing", x.taken(shelf, 10 + sheet), NOTHING);
            }
            for (int n : new int[] {0, 9, -1, Integer.MAX_VALUE, Integer.MIN_VALUE}) {
                x.shelf(shelf, 0, 3);
                e.due("nothing, n " + n, x.shelf(shelf, 2, n), 1);
                e.due("nothing", x.taken(shelf, 0), NOTHING);
            }
        }

        e.says(45, "BAD: no such SHELF, what, thing.");
        x.shelf(0, 0, 5);
        for (int what = 0; what <= 2; what++) {
            int asked = what;
            e.outside("SHELF", s -> x.shelf(s, asked, 0), 0, 3, BAD);
        }
        e.outside("what", what -> x.shelf(0, what, 0), 0, 2, BAD);
        e.outside("good", g -> x.shelf(0, 0, g), 0, 8, BAD);
        e.outside("SHEET", s -> x.shelf(0, 1, s), 0, 3, BAD);
        e.due("it holds what it held", x.taken(0, 0), 5);
        UnlikeNeighbours none = new UnlikeNeighbours();
        e.due("no goods", none.shelf(0, 0, 0), BAD);
        UnlikeNeighbours one = Edge.all(LIVING, 1);
        e.outside("of one good", g -> one.shelf(0, 0, g), 0, 0, BAD);
    }

    private void taken46() {
        e.says(46, "What a SHELF holds taken for a thing of KIND as (0 to 5, or one under it): its number; for a"
            + " row of sort as - 10 (as 10 to 14): how many items.");
        boolean[][] isUnder = {{true, true, true, true, true}, {true, false, false, false, false},
            {false, true, true, false, false}, {false, false, true, false, false},
            {false, false, false, true, true}, {false, false, false, false, true}};
        UnlikeNeighbours x = Edge.kinds(TWIN, LIVING, GOAT, SEALED, ROYAL);
        for (int g = 0; g < 5; g++) {
            x.shelf(3, 0, g);
            for (int as = 0; as <= 5; as++) {
                e.due("good " + g + " as " + as, x.taken(3, as), isUnder[as][g] ? g : OTHER);
            }
            for (int as = 10; as <= 14; as++) {
                e.due("good " + g + " as " + as, x.taken(3, as), OTHER);
            }
        }
        for (int sort = 0; sort < 5; sort++) {
            for (int n : new int[] {0, 1, 40}) {
                x.sheet(2, sort, n);
                x.shelf(3, 1, 2);
                for (int as = 10; as <= 14; as++) {
                    e.due("row of " + n + " as " + as, x.taken(3, as), as - 10 == sort ? n : OTHER);
                }
                for (int as = 0; as <= 5; as++) {
                    e.due("row of " + n + " as " + as, x.taken(3, as), OTHER);
                }
            }
        }
        x.remake(4, GOAT);
        x.shelf(3, 0, 4);
        e.due("the KIND that it is now", x.taken(3, LIVING) * 10 + x.taken(3, GOAT), 44);
        e.gone(x, 4);
        e.due("one OUT", x.taken(3, 0), 4);

        e.says(46, "BAD: no such SHELF, as; -13; -11.");
        UnlikeNeighbours y = Edge.all(LIVING, 1);
        y.sheet(2, 2, 5);
        y.shelf(1, 1, 2);
        y.shelf(3, 0, 0);
        int[] no = {-2, -1, 6, 7, 8, 9, 15, 16, 20, 32, 256, 266, Integer.MIN_VALUE, Integer.MAX_VALUE};
        for (int as : no) {
            e.due("as " + as + " of a good", y.taken(3, as), BAD);
            e.due("as " + as + " of nothing", y.taken(0, as), BAD);
            e.due("as " + as + " of a row", y.taken(1, as), BAD);
        }
        for (int as = 0; as <= 14; as = as == 5 ? 10 : as + 1) {
            int asked = as;
            e.due("nothing as " + as, y.taken(0, as), NOTHING);
            e.outside("SHELF", s -> y.taken(s, asked), 0, 3, BAD);
        }
    }

    private void act47() {
        e.says(47, "An ACT (0 to 3) of the thing on a SHELF, with x.");
        UnlikeNeighbours x = Edge.kinds(TWIN, LIVING, GOAT, SEALED, ROYAL);
        for (int shelf = 0; shelf < 4; shelf++) {
            for (int g = 0; g < 5; g++) {
                x.shelf(shelf, 0, g);
                x.change(g, 2, 9);
                for (int act = 0; act <= 3; act++) {
                    String call = "act " + act + " of good " + g + " on SHELF " + shelf;
                    e.due(call, x.act(shelf, act, 77), answerOf(act, g + 1, g, 9, 77));
                    traceIs(call, x, BODIES[g + 1][act]);
                }
            }
        }
        e.due("an answer below 0", x.act(3, WEIGHS, 3), -1);

        e.says(47, "0, and no TRACE then: no such SHELF, act, nothing, a row.");
        UnlikeNeighbours y = Edge.kinds(TWIN, LIVING);
        y.shelf(0, 0, 0);
        y.sheet(0, 2, 9);
        y.shelf(1, 1, 0);
        e.outside("SHELF", s -> acted(y, s, 0), 0, 3, 0);
        e.outside("act", act -> acted(y, 0, act), 0, 3, 0);
        for (int act = 0; act <= 3; act++) {
            e.due("of a row", acted(y, 1, act), 0);
            e.due("of nothing", acted(y, 2, act), 0);
            e.due("of nothing", acted(y, 3, act), 0);
        }
        e.due("act of a good again", y.act(0, 0, 5), 10);
        traceIs("a good again", y, 20, 10);
        e.due("of nothing in a new object", new UnlikeNeighbours().act(0, 0, 5), 0);
    }

    /** An act that should not be, behind one that was: all that is left of it (0: nothing). */
    private static int acted(UnlikeNeighbours x, int shelf, int act) {
        x.act(0, TELLS, 50);
        return Math.abs(x.act(shelf, act, 50)) + 100 * x.many(6) + (x.trace(0) == NONE ? 0 : 10000);
    }

    private void trace48AndMany49() {
        e.says(48, "THE TRACE's i-th body.");
        UnlikeNeighbours x = held(1, GOAT, 5);
        x.act(0, TELLS, 50);
        e.inTurn("trace", x::trace, 51, 13, 30, 11, 50, 10, 12);
        x.taken(0, 0);
        x.shelf(0, 2, 0);
        x.remake(1, TWIN);
        e.inTurn("it stays till the next act(): trace", x::trace, 51, 13, 30, 11, 50, 10, 12, NONE);

        e.says(48, "NONE.");
        e.outside("trace of seven", x::trace, 0, 6, NONE);
        UnlikeNeighbours one = held(0, SEALED, 5);
        e.outside("trace at first", one::trace, 0, -1, NONE);
        one.act(0, WEIGHS, 5);
        e.outside("trace of one", one::trace, 0, 0, NONE);
        one.act(1, WEIGHS, 5);
        e.outside("trace of none", one::trace, 0, -1, NONE);

        e.says(49, "How many: what = 0 GOODS, 1 RULES, 2 those that are OUT, 3 REPORTS, 4 ROWS, 5 bytes of THE"
            + " TAPE, 6 bodies of THE TRACE (those kept, 30 at most).");
        UnlikeNeighbours y = new UnlikeNeighbours();
        e.inTurn("at first: what", y::many, 0, 0, 0, 0, 0, 0, 0);
        for (int i = 0; i < 9; i++) {
            y.good(GOAT, i % 3, 9, 1);
        }
        e.inTurn("goods: what", y::many, 9, 0, 0, 0, 0, 0, 0);
        Edge.told(y, "good free;".repeat(8));
        e.inTurn("RULES: what", y::many, 9, 8, 0, 0, 0, 0, 0);
        y.prove();
        e.inTurn("ROWS: what", y::many, 9, 8, 0, 0, 9, 0, 0);
        e.gone(y, 8, 7, 6, 5, 4, 3, 2, 1, 0);
        e.inTurn("OUT: what", y::many, 9, 8, 9, 0, 9, 0, 0);
        for (int i = 0; i < 6; i++) {
            y.report(i, 1);
        }
        e.inTurn("REPORTS: what", y::many, 9, 8, 9, 6, 9, 0, 0);
        Edge.feed(y, " ".repeat(200));
        e.inTurn("THE TAPE: what", y::many, 9, 8, 9, 6, 9, 200, 0);
        y.shelf(0, 0, 8);
        y.act(0, TELLS, 5);
        e.inTurn("THE TRACE: what", y::many, 9, 8, 9, 6, 9, 200, 7);
        y.come();
        y.forget();
        y.prove();
        y.rules();
        y.act(0, 4, 5);
        e.inTurn("less again: what", y::many, 9, 0, 8, 0, 1, 0, 0);

        e.says(49, "BAD: another what.");
        e.outside("what", y::many, 0, 6, BAD);
        e.outside("what of a new object", new UnlikeNeighbours()::many, 0, 6, BAD);
    }
}
