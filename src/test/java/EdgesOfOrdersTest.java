import java.io.IOException;
import java.util.function.IntUnaryOperator;

/** The Terms' part 3 as far as it tells of orders and THE GAME, promises 17 to 28. */
public final class EdgesOfOrdersTest {
    private static final int BAD = Edge.BAD, NONE = Edge.NONE;
    private static final int TWIN = Edge.TWIN, LIVING = Edge.LIVING, GOAT = Edge.GOAT,
        SEALED = Edge.SEALED, ROYAL = Edge.ROYAL;
    private static final int WAYS = 0, LONGEST = 1, CHEAPEST = 2, NEVER = 3, BEST = 4, A_GOAT = 5,
        GAP_FOR = 6, GAME = 7, PLAY = 8;
    // Found by a program of its own that tries all orders. Each: goods by fours, GAP and DAY, THE
    // LINE; ways(), longest(), cheapest(), never(), best(), goat(), gapFor(), game(), play(); the
    // FIRST WAY, the FIRST LONGEST, the FIRST WAY of least COST.
    private static final int[][][] SHEDS = {
        {{3, 0, 3, 100,
           1, 0, 9, 1, 3, 2, 0, 30, 2, 0, 0, 10, 4, 0, 1, 1, 4, 0, 9, 1, 2, 2, 9, 1,
           4, 0, 1, 1, 2, 1, 3, 2},
            {3, 0}, {}, {0, 3, -3, 59, 6, -3, 1, 1, 6},
            {}, {6, 2, 7}, {}},
        {{2, 0, 9, 30,
           2, 1, 0, 30, 1, 2, 0, 30, 2, 1, 9, 10, 3, 1, 9, 10, 3, 1, 1, 999, 2, 2, 1, 1},
            {3, 3}, {}, {0, 6, -3, 2, 0, 3, 1, 0, -3},
            {}, {0, 5, 6, 2, 4, 3}, {}},
        {{2, 2, 9, 100,
           5, 1, 3, 100, 3, 0, 3, 7, 2, 2, 0, 10, 1, 0, 2, 2, 2, 1, 3, 999, 5, 0, 1, 10,
           4, 2, 2, 2},
            {2, 3}, {}, {3, 8, 3604, 0, 7, 6, 2, 1, 5},
            {5, 1, 7, 3, 6, 0, 4, 2}, {5, 1, 7, 3, 6, 0, 4, 2}, {5, 1, 7, 3, 6, 0, 4, 2}},
        {{4, 1, 3, 10,
           1, 1, 3, 1, 2, 0, 1, 10, 2, 0, 2, 30, 1, 0, 0, 30, 2, 2, 0, 7, 1, 0, 1, 30,
           4, 0, 2, 7, 3, 1, 0, 1},
            {2, 9}, {5}, {0, 4, -3, 92, 8, -3, -3, 0, -3},
            {}, {8, 1, 7, 0}, {}},
        {{1, 2, 2, 100,
           2, 1, 1, 30, 1, 0, 9, 7, 2, 2, 9, 1, 2, 2, 0, 100},
            {1, 3}, {}, {1, 5, 558, 0, 4, 2, 1, 1, 2},
            {4, 1, 3, 0, 2}, {4, 1, 3, 0, 2}, {4, 1, 3, 0, 2}},
        {{2, 0, 1, 10,
           2, 1, 1, 10, 1, 1, 2, 999, 1, 2, 0, 10},
            {1, 9}, {}, {1, 4, 1114, 0, 2, 1, 1, 1, 3},
            {2, 0, 3, 1}, {2, 0, 3, 1}, {2, 0, 3, 1}},
        {{4, 0, 1, 1,
           2, 0, 2, 30, 2, 2, 2, 7, 4, 0, 0, 100, 3, 1, 9, 999, 4, 2, 1, 30, 2, 2, 9, 1,
           5, 0, 9, 1, 2, 0, 1, 10},
            {3, 0}, {}, {0, 4, -3, 7, 4, -3, 1, 1, 6},
            {}, {8, 4, 7, 3}, {}},
        {{1, 1, 2, 30,
           2, 2, 0, 1, 2, 0, 0, 7, 2, 0, 1, 7, 2, 1, 2, 10, 2, 2, 9, 30, 5, 2, 2, 1,
           2, 0, 1, 10},
            {1, 3}, {}, {3, 8, 1454, 0, 7, 0, 1, 1, 6},
            {4, 7, 3, 6, 0, 2, 5, 1}, {4, 7, 3, 6, 0, 2, 5, 1}, {7, 3, 6, 2, 5, 1, 4, 0}},
        {{1, 1, 0, 30,
           2, 0, 2, 999, 1, 1, 0, 7, 4, 1, 9, 2, 1, 2, 1, 1, 2, 1, 0, 2, 2, 1, 2, 30,
           2, 1, 3, 30},
            {1, 3}, {}, {0, 6, -3, 5, 1, 2, -3, 0, -3},
            {}, {7, 4, 6, 1, 5, 3}, {}},
        {{1, 0, 0, 100,
           2, 2, 3, 2, 5, 0, 3, 100, 5, 2, 3, 30, 2, 2, 1, 2, 3, 0, 1, 10},
            {1, 0}, {}, {3, 6, 1627, 0, 5, 3, 1, 0, -3},
            {4, 5, 2, 0, 3, 1}, {4, 5, 2, 0, 3, 1}, {5, 2, 4, 0, 3, 1}},
        {{1, 2, 9, 999,
           2, 0, 0, 1, 2, 2, 2, 1, 4, 1, 9, 1, 1, 2, 9, 100, 2, 1, 2, 1, 5, 0, 9, 30,
           1, 2, 9, 1, 5, 1, 0, 999},
            {1, 0}, {}, {0, 5, -3, 21, 6, -3, -3, 1, 6},
            {}, {6, 1, 8, 5, 3}, {}},
        {{2, 1, 2, 999,
           5, 1, 2, 30, 2, 2, 2, 2, 5, 0, 2, 2, 3, 2, 2, 2, 1, 0, 3, 100, 4, 2, 9, 1,
           4, 1, 0, 1, 1, 0, 3, 30},
            {1, 9}, {}, {42, 9, 7323, 0, 7, 7, 2, 1, 6},
            {6, 4, 2, 7, 1, 8, 0, 5, 3}, {6, 4, 2, 7, 1, 8, 0, 5, 3}, {7, 1, 6, 0, 4, 2, 8, 5, 3}},
        {{5, 0, 2, 100,
           2, 1, 1, 1, 3, 2, 1, 100, 1, 1, 9, 100, 5, 1, 2, 1},
            {1, 0}, {4, 0}, {3, 3, 202, 0, 3, -3, 2, 1, 2},
            {2, 3, 1}, {2, 3, 1}, {2, 3, 1}},
        {{2, 1, 0, 999,
           5, 2, 1, 1, 3, 1, 3, 1, 1, 0, 1, 100, 2, 0, 2, 999},
            {1, 0}, {}, {2, 5, 5653, 0, 2, 0, 1, 1, 4},
            {2, 0, 4, 1, 3}, {2, 0, 4, 1, 3}, {2, 0, 4, 1, 3}},
        {{2, 1, 2, 2,
           2, 0, 1, 10, 3, 2, 2, 10, 3, 2, 2, 1, 3, 0, 2, 1},
            {1, 0}, {0, 4}, {3, 3, 34, 0, 3, -3, 3, 1, 1},
            {1, 3, 2}, {1, 3, 2}, {1, 3, 2}},
        {{2, 2, 0, 100,
           2, 0, 2, 7, 3, 1, 3, 999, 2, 0, 1, 30, 3, 2, 0, 7, 2, 1, 1, 999, 1, 2, 3, 7,
           5, 1, 1, 100, 3, 1, 1, 1},
            {1, 0}, {}, {272, 9, 8641, 0, 6, 6, 3, 1, 3},
            {3, 1, 8, 6, 4, 0, 7, 5, 2}, {3, 1, 8, 6, 4, 0, 7, 5, 2}, {8, 7, 5, 2, 6, 4, 0, 3, 1}},
        {{1, 0, 1, 100,
           3, 0, 0, 30, 4, 1, 3, 10, 2, 2, 3, 10, 2, 1, 2, 30, 1, 2, 9, 2},
            {1, 3}, {5, 1}, {2, 4, 490, 0, 3, 3, 1, 0, -3},
            {3, 0, 4, 2}, {3, 0, 4, 2}, {4, 2, 0, 3}},
        {{2, 2, 2, 100,
           2, 0, 2, 999, 2, 0, 0, 100, 2, 2, 2, 30, 2, 2, 3, 10, 2, 1, 1, 7, 2, 1, 2, 2,
           2, 0, 3, 999, 1, 0, 9, 2},
            {1, 9}, {}, {34, 9, 14455, 0, 4, 1, 3, 1, 8},
            {4, 6, 3, 8, 0, 7, 2, 5, 1}, {4, 6, 3, 8, 0, 7, 2, 5, 1}, {8, 4, 7, 2, 6, 1, 3, 0, 5}},
        {{2, 2, 2, 1,
           1, 0, 2, 30, 2, 2, 2, 1, 1, 0, 2, 2, 5, 1, 9, 10, 5, 2, 9, 10, 1, 2, 1, 100,
           2, 2, 1, 999, 3, 2, 9, 1},
            {1, 0}, {8, 3}, {1, 7, 2062, 0, 7, 5, 1, 0, -3},
            {7, 4, 6, 1, 5, 2, 0}, {7, 4, 6, 1, 5, 2, 0}, {7, 4, 6, 1, 5, 2, 0}},
        {{2, 2, 2, 999,
           5, 2, 0, 999, 1, 2, 3, 10, 1, 0, 1, 7, 4, 0, 0, 7, 1, 2, 9, 10, 5, 1, 9, 2,
           1, 2, 2, 30, 2, 0, 3, 999},
            {2, 0}, {8, 4}, {0, 3, -3, 39, 7, -3, -3, 1, 7},
            {}, {7, 3, 6}, {}},
        {{2, 1, 0, 10,
           2, 1, 9, 10, 2, 2, 3, 2, 3, 0, 0, 999, 2, 0, 1, 30, 5, 1, 3, 100},
            {1, 3}, {2, 5}, {2, 4, 3407, 0, 1, 0, 2, 0, -3},
            {1, 4, 0, 3}, {1, 4, 0, 3}, {1, 4, 3, 0}},
        {{3, 0, 3, 1,
           1, 2, 1, 1, 2, 0, 9, 10, 2, 0, 1, 30, 1, 1, 0, 100, 3, 2, 0, 10, 1, 0, 2, 2,
           2, 2, 9, 100, 2, 2, 2, 100},
            {1, 0}, {}, {49, 9, 972, 0, 6, 4, 2, 1, 4},
            {4, 8, 6, 3, 7, 2, 0, 5, 1}, {4, 8, 6, 3, 7, 2, 0, 5, 1}, {8, 6, 3, 7, 4, 2, 5, 0, 1}},
        {{2, 2, 1, 100,
           2, 2, 9, 100, 3, 1, 0, 100, 4, 2, 1, 1, 2, 0, 0, 7, 2, 1, 0, 100, 1, 0, 3, 100,
           2, 1, 3, 1},
            {1, 0}, {}, {124, 8, 2160, 0, 3, 6, 3, 0, -3},
            {3, 1, 6, 0, 4, 7, 5, 2}, {3, 1, 6, 0, 4, 7, 5, 2}, {3, 1, 7, 0, 5, 2, 6, 4}},
        {{2, 1, 9, 30,
           1, 2, 1, 30, 3, 0, 2, 999, 3, 2, 9, 7, 3, 1, 9, 1, 4, 0, 9, 100, 1, 2, 0, 1,
           2, 1, 9, 1, 1, 1, 3, 30},
            {1, 0}, {5}, {25, 8, 1348, 0, 8, 7, 3, 0, -3},
            {2, 6, 3, 8, 1, 7, 4, 0}, {2, 6, 3, 8, 1, 7, 4, 0}, {2, 8, 6, 3, 1, 7, 4, 0}},
    };

    private final Edge e;

    private EdgesOfOrdersTest(String[] args) throws IOException {
        e = new Edge("EdgesOfOrdersTest", args);
    }

    public static void main(String[] args) throws IOException {
        EdgesOfOrdersTest test = new EdgesOfOrdersTest(args);
        test.termsOfOrders();
        test.termsOfTheFirst();
        test.termsOfTheGame();
        test.waysAndWay17And18();
        test.longestAndFar19And20();
        test.cheapestAndCheap21And22();
        test.never23AndBest24();
        test.goat25AndGapFor26();
        test.gameAndPlay27And28();
        test.e.end();
    }

    private static UnlikeNeighbours shedOf(int[][] told) {
        UnlikeNeighbours x = Edge.shed(told[0]);
        x.let(0, told[1][0]);
        x.let(1, told[1][1]);
        for (int g : told[2]) {
            x.go(g);
        }
        return x;
    }

    private static int asked(UnlikeNeighbours x, int question) {
        switch (question) {
            case WAYS: return x.ways();
            case LONGEST: return x.longest();
            case CHEAPEST: return x.cheapest();
            case NEVER: return x.never();
            case BEST: return x.best();
            case A_GOAT: return x.goat();
            case GAP_FOR: return x.gapFor();
            case GAME: return x.game();
            default: return x.play();
        }
    }

    /** In all sheds one question's answer, asked first and asked behind the others. */
    private void inAllSheds(int question) {
        for (int i = 0; i < SHEDS.length; i++) {
            int want = SHEDS[i][3][question];
            UnlikeNeighbours x = shedOf(SHEDS[i]);
            e.due("shed " + i + ", question " + question, asked(x, question), want);
            for (int other = WAYS; other <= PLAY; other++) {
                asked(x, other);
                e.due("shed " + i + ", question " + question + " behind " + other, asked(x, question), want);
            }
        }
    }

    /** The i-th of an order, for all i that may be asked for and some that may not. */
    private void order(String call, IntUnaryOperator ask, int... order) {
        for (int i = 0; i <= 8; i++) {
            e.due(call + " of " + i, ask.applyAsInt(i), i < order.length ? order[i] : NONE);
        }
        e.outside(call, ask, 0, 8, BAD);
    }

    private UnlikeNeighbours noGoods() {
        return new UnlikeNeighbours();
    }

    private UnlikeNeighbours allOut() {
        return e.gone(Edge.all(LIVING, 4), 1, 3, 0, 2);
    }

    /** One is OUT, and the one that is left came beside it. */
    private UnlikeNeighbours lockedIn() {
        return e.gone(Edge.all(LIVING, 2), 0);
    }

    private void termsOfOrders() {
        e.says(0, "WAY: an order in which all that are IN go, one behind the other, each as it MAY GO then"
            + " (with none IN: the empty one).");
        e.due("no goods", noGoods().ways(), 1);
        order("way with no goods", noGoods()::way);
        e.due("none IN", allOut().ways(), 1);
        order("way with none IN", allOut()::way);
        e.due("one IN", Edge.all(SEALED, 1).ways(), 1);
        order("way of one", Edge.all(SEALED, 1)::way, 0);
        e.due("one IN that may not go", lockedIn().ways(), 0);
        e.due("two that may not go one behind the other", Edge.all(LIVING, 2).ways(), 0);
        e.due("two in one bay, a goat between", Edge.shed(LIVING, 0, 0, 1, LIVING, 0, 0, 1,
            GOAT, 1, 0, 1).ways(), 1);
        UnlikeNeighbours x = Edge.all(LIVING, 4);
        e.gone(x, 1);
        order("way of those that are IN alone", x::way, 3, 0, 2);

        e.says(0, "LONGEST: an order in which as many go as can, each as it MAY GO then.");
        e.due("no goods", noGoods().longest(), 0);
        e.due("none IN", allOut().longest(), 0);
        e.due("none may go", lockedIn().longest(), 0);
        e.due("one of two", Edge.all(LIVING, 2).longest(), 1);
        e.due("two of three", Edge.all(LIVING, 3).longest(), 2);
        e.due("all of four", Edge.all(LIVING, 4).longest(), 4);
        inAllSheds(LONGEST);

        e.says(0, "COST of an order: FEE of each that goes times its place in it (1, 2, ..), together.");
        UnlikeNeighbours bay = Edge.shed(GOAT, 0, 0, 100, GOAT, 0, 0, 10, GOAT, 0, 0, 1);
        e.due("one order alone", bay.cheapest(), 1 + 2 * 10 + 3 * 100);
        e.due("of none", bay.paid(), 0);
        e.gone(bay, 2);
        e.due("places begin anew behind THE LINE", bay.cheapest(), 10 + 2 * 100);
        e.due("THE LINE's", bay.paid(), 1);
        e.gone(bay, 1);
        e.due("THE LINE's", bay.paid(), 1 + 2 * 10);
        e.due("of one", bay.cheapest(), 100);
        e.gone(bay, 0);
        e.due("THE LINE's", bay.paid(), 1 + 2 * 10 + 3 * 100);
        e.due("of the empty one", bay.cheapest(), 0);
    }

    private void termsOfTheFirst() {
        e.says(0, "Of several orders the FIRST is the one that has the lesser number where they are unlike"
            + " first.");
        // 0 can't be first, for what is left of 1 and 2 then; and 10 is more than 2.
        UnlikeNeighbours x = Edge.shed(GOAT, 0, 0, 10, LIVING, 1, 0, 10, LIVING, 2, 0, 10);
        order("way", x::way, 1, 0, 2);
        order("way of goats", Edge.all(GOAT, 9)::way, 6, 3, 0, 7, 4, 1, 8, 5, 2);
        order("far of goats", Edge.all(GOAT, 9)::far, 6, 3, 0, 7, 4, 1, 8, 5, 2);
        // All the same COST.
        UnlikeNeighbours same = Edge.shed(GOAT, 0, 0, 7, GOAT, 1, 0, 7, GOAT, 2, 0, 7, GOAT, 1, 0, 7);
        order("cheap of equals", same::cheap, 0, 2, 3, 1);
        UnlikeNeighbours free = Edge.all(GOAT, 9);
        Edge.told(free, "good free;");
        order("cheap of goats for nothing", free::cheap, 6, 3, 0, 7, 4, 1, 8, 5, 2);
        for (int i = 0; i < SHEDS.length; i++) {
            order("shed " + i + ", way", shedOf(SHEDS[i])::way, SHEDS[i][4]);
            order("shed " + i + ", far", shedOf(SHEDS[i])::far, SHEDS[i][5]);
            order("shed " + i + ", cheap", shedOf(SHEDS[i])::cheap, SHEDS[i][6]);
        }
    }

    private void termsOfTheGame() {
        e.says(0, "GAME: two merchants in turn let one go that MAY GO; who can't has lost.");
        e.due("who can't at once", noGoods().game(), 0);
        e.due("who can't at once", lockedIn().game(), 0);
        for (int n = 0; n <= 9; n++) {
            e.due("goats in turn, " + n, Edge.all(GOAT, n).game(), n % 2);
        }
        e.due("two, one of which stays", Edge.all(LIVING, 2).game(), 1);
        inAllSheds(GAME);
    }

    private void waysAndWay17And18() {
        e.says(17, "How many WAYS there are.");
        int[] ofGoats = {1, 1, 2, 6, 12, 30, 90, 210, 560, 1680};
        int[][] ofLiving = {{1, 1, 0, 0, 1, 3, 10, 22, 41, 121}, {1, 1, 0, 0, 0, 0, 1, 4, 8, 19},
            {1, 1, 0, 0, 0, 0, 0, 0, 0, 0}};
        for (int n = 0; n <= 9; n++) {
            e.due(n + " goats", Edge.all(GOAT, n).ways(), ofGoats[n]);
            for (int gap = 1; gap <= 3; gap++) {
                UnlikeNeighbours x = Edge.all(LIVING, n);
                x.let(0, gap);
                e.due(n + " living ones with GAP " + gap, x.ways(), ofLiving[gap - 1][n]);
            }
        }
        UnlikeNeighbours bay = new UnlikeNeighbours();
        for (int n = 0; n < 9; n++) {
            bay.good(GOAT, 1, 0, 1);
        }
        e.due("nine in one bay", bay.ways(), 1);
        e.due("none may go", lockedIn().ways(), 0);
        inAllSheds(WAYS);

        e.says(18, "The i-th (0 to 8) good of the FIRST WAY.");
        order("way of nine", Edge.all(LIVING, 9)::way, 6, 3, 0, 7, 4, 1, 8, 5, 2);
        order("way of nine in one bay", bay::way, 8, 7, 6, 5, 4, 3, 2, 1, 0);
        order("way of four", Edge.all(LIVING, 4)::way, 1, 3, 0, 2);

        e.says(18, "BAD; NONE: there is no WAY, or it has not so many.");
        order("with no WAY", Edge.all(LIVING, 2)::way);
        order("with no WAY behind THE LINE", lockedIn()::way);
        order("with no goods", noGoods()::way);
        order("with none IN", allOut()::way);
        order("of one", Edge.all(GOAT, 1)::way, 0);
        order("of eight", Edge.all(GOAT, 8)::way, 5, 2, 6, 3, 0, 7, 4, 1);
    }

    private void longestAndFar19And20() {
        e.says(19, "How many go in a LONGEST.");
        int[][] ofLiving = {{0, 1, 1, 2, 4, 5, 6, 7, 8, 9}, {0, 1, 1, 1, 2, 4, 6, 7, 8, 9},
            {0, 1, 1, 1, 1, 1, 1, 1, 1, 1}};
        for (int n = 0; n <= 9; n++) {
            e.due(n + " goats", Edge.all(GOAT, n).longest(), n);
            for (int gap = 1; gap <= 3; gap++) {
                UnlikeNeighbours x = Edge.all(LIVING, n);
                x.let(0, gap);
                e.due(n + " living ones with GAP " + gap, x.longest(), ofLiving[gap - 1][n]);
            }
        }
        e.due("none may go", lockedIn().longest(), 0);
        e.due("those that are IN alone", allOut().longest(), 0);

        e.says(20, "The i-th (0 to 8) good of the FIRST LONGEST.");
        order("far of nine", Edge.all(LIVING, 9)::far, 6, 3, 0, 7, 4, 1, 8, 5, 2);
        UnlikeNeighbours two = Edge.all(LIVING, 5);
        two.let(0, 2);
        order("not the least first", two::far, 3, 0, 4, 1);
        order("two of three", Edge.all(LIVING, 3)::far, 0, 2);

        e.says(20, "BAD; NONE: it has not so many.");
        order("with no goods", noGoods()::far);
        order("with none IN", allOut()::far);
        order("none may go", lockedIn()::far);
        order("one of two", Edge.all(LIVING, 2)::far, 0);
        order("of one", Edge.all(GOAT, 1)::far, 0);
        order("of eight", Edge.all(GOAT, 8)::far, 5, 2, 6, 3, 0, 7, 4, 1);
    }

    private void cheapestAndCheap21And22() {
        e.says(21, "The least COST of a WAY.");
        e.due("with no goods", noGoods().cheapest(), 0);
        e.due("with none IN", allOut().cheapest(), 0);
        e.due("of one", Edge.all(ROYAL, 1).cheapest(), 120);
        UnlikeNeighbours dear = Edge.shed(ROYAL, 0, 0, 999, ROYAL, 1, 0, 999, ROYAL, 2, 0, 999,
            ROYAL, 0, 0, 999, ROYAL, 1, 0, 999, ROYAL, 2, 0, 999, ROYAL, 0, 0, 999, ROYAL, 1, 0, 999,
            ROYAL, 2, 0, 999);
        Edge.told(dear, "good more 999;");
        e.due("the dearest nine", dear.cheapest(), 4096 * 45);
        UnlikeNeighbours free = Edge.shed(GOAT, 0, 0, 1, TWIN, 1, 0, 1);
        Edge.told(free, "good free;");
        e.due("for nothing", free.cheapest(), 0);
        inAllSheds(CHEAPEST);

        e.says(21, "NONE: there is no WAY.");
        e.due("two beside one another", Edge.all(LIVING, 2).cheapest(), NONE);
        e.due("one beside the last one", lockedIn().cheapest(), NONE);
        UnlikeNeighbours x = Edge.all(LIVING, 9);
        x.let(0, 3);
        e.due("nine by GAP 3", x.cheapest(), NONE);

        e.says(22, "The i-th (0 to 8) good of the FIRST WAY of least COST.");
        UnlikeNeighbours goats = Edge.shed(GOAT, 0, 0, 1, GOAT, 1, 0, 2, GOAT, 2, 0, 3, GOAT, 0, 0, 3);
        // 3 and 0 come as 3 0; the dearer the sooner: of WORTH 3 both, 2 and 3.
        order("cheap", goats::cheap, 2, 3, 1, 0);
        goats.change(3, 3, 2);
        order("cheap, of two that cost as much", goats::cheap, 2, 1, 3, 0);

        e.says(22, "BAD; NONE: there is no WAY, or it has not so many.");
        order("with no WAY", Edge.all(LIVING, 2)::cheap);
        order("with no WAY behind THE LINE", lockedIn()::cheap);
        order("with no goods", noGoods()::cheap);
        order("with none IN", allOut()::cheap);
        order("of one", Edge.all(GOAT, 1)::cheap, 0);
        order("of nine", Edge.all(LIVING, 9)::cheap, 6, 3, 0, 7, 4, 1, 8, 5, 2);
    }

    private void never23AndBest24() {
        e.says(23, "Those that are IN, and go in no order in which each MAY GO then, as a set.");
        e.due("with no goods", noGoods().never(), 0);
        e.due("with none IN", allOut().never(), 0);
        e.due("both go, though not in one order", Edge.all(LIVING, 2).never(), 0);
        e.due("locked in", lockedIn().never(), 2);
        UnlikeNeighbours under = Edge.shed(LIVING, 0, 0, 1, LIVING, 0, 0, 1);
        e.due("under what it came beside", under.never(), 1);
        e.gone(under, 1);
        e.due("one OUT is none of them", under.never(), 1);
        under.come();
        under.remake(0, GOAT);
        e.due("under another one", under.never(), 0);
        UnlikeNeighbours nine = Edge.all(LIVING, 9);
        nine.let(0, 3);
        e.due("all but the TOPS", nine.never(), 63);
        e.gone(nine, 6);
        e.due("all that are IN", nine.never(), 511 - 64);
        nine.remake(8, GOAT);
        e.due("fewer by a goat", nine.never(), 2 + 4);
        inAllSheds(NEVER);

        e.says(24, "Of those that MAY GO the one behind which there are most WAYS; of several the least.");
        e.due("the only one", Edge.all(GOAT, 1).best(), 0);
        e.due("of equals", Edge.all(GOAT, 3).best(), 0);
        e.due("of equals in bays", Edge.all(GOAT, 9).best(), 6);
        e.due("of equals with no WAYS at all", Edge.all(LIVING, 3).best(), 0);
        UnlikeNeighbours two = Edge.shed(GOAT, 0, 0, 1, GOAT, 1, 0, 1, GOAT, 1, 0, 1);
        e.due("the one in the fuller bay", two.best(), 2);
        inAllSheds(BEST);

        e.says(24, "NONE: none MAY GO.");
        e.due("with no goods", noGoods().best(), NONE);
        e.due("with none IN", allOut().best(), NONE);
        e.due("locked in", lockedIn().best(), NONE);
    }

    private void goat25AndGapFor26() {
        e.says(25, "The good that is IN by which, were it a goat, there would be most WAYS (more than now);"
            + " of several the least.");
        e.due("the first of two", Edge.all(LIVING, 2).goat(), 0);
        e.due("the middle one of three", Edge.all(LIVING, 3).goat(), 1);
        e.due("not one that is OUT", lockedIn().goat(), 1);
        UnlikeNeighbours x = Edge.all(LIVING, 2);
        e.due("goat", x.goat(), 0);
        e.due("it is as it was", x.goodOf(0, 0) * 10 + x.mates(0), 22);
        UnlikeNeighbours nine = Edge.all(LIVING, 9);
        e.due("of nine", nine.goat(), 1);
        e.due("WAYS as before", nine.ways(), 121);
        inAllSheds(A_GOAT);

        e.says(25, "NONE.");
        e.due("with no goods", noGoods().goat(), NONE);
        e.due("with none IN", allOut().goat(), NONE);
        e.due("all goats", Edge.all(GOAT, 9).goat(), NONE);
        e.due("one alone: as many as now", Edge.all(LIVING, 1).goat(), NONE);
        e.due("two apart", Edge.kinds(LIVING, GOAT, LIVING).goat(), NONE);
        UnlikeNeighbours none = Edge.all(LIVING, 9);
        none.let(0, 3);
        e.due("one goat is too few", none.goat(), NONE);

        e.says(26, "The greatest GAP (1 to 3) with which there is a WAY (THE RULES play no part).");
        e.due("with no goods", noGoods().gapFor(), 3);
        e.due("with none IN", allOut().gapFor(), 3);
        e.due("one alone", Edge.all(LIVING, 1).gapFor(), 3);
        e.due("goats", Edge.all(GOAT, 9).gapFor(), 3);
        e.due("GAP 2", Edge.all(LIVING, 6).gapFor(), 2);
        e.due("GAP 1", Edge.all(LIVING, 5).gapFor(), 1);
        for (int gap = 1; gap <= 3; gap++) {
            UnlikeNeighbours y = Edge.all(LIVING, 6);
            y.let(0, gap);
            e.due("from GAP " + gap, y.gapFor(), 2);
            e.due("mates as before", y.mates(0), gap == 1 ? 2 : gap == 2 ? 6 : 14);
            e.due("GAP as before", y.let(0, 1), gap);
        }
        for (int apart = 2; apart <= 4; apart++) {
            // The last one of THE LINE and the one that is left are so many apart.
            UnlikeNeighbours line = Edge.shed(LIVING, 0, 0, 1);
            for (int g = 1; g < apart; g++) {
                line.good(GOAT, 1, 0, 1);
            }
            line.good(LIVING, 2, 0, 1);
            for (int g = apart - 1; g > 0; g--) {
                e.gone(line, g);
            }
            e.gone(line, apart);
            e.due(apart + " apart", line.gapFor(), apart - 1);
        }
        UnlikeNeighbours ruled = Edge.all(LIVING, 6);
        Edge.told(ruled, "good if gap=3 free; good if gap=1 more 999;");
        e.due("with RULES of GAP", ruled.gapFor(), 2);
        inAllSheds(GAP_FOR);

        e.says(26, "NONE.");
        e.due("two alone", Edge.all(LIVING, 2).gapFor(), NONE);
        e.due("three", Edge.all(LIVING, 3).gapFor(), NONE);
        e.due("locked in", lockedIn().gapFor(), NONE);
    }

    private void gameAndPlay27And28() {
        e.says(27, "The GAME: 1 if who is to move wins, if both play as well as they can; 0 if the other one"
            + " does.");
        e.due("with no goods", noGoods().game(), 0);
        e.due("with none IN", allOut().game(), 0);
        e.due("locked in", lockedIn().game(), 0);
        int[][] ofLiving = {{0, 1, 1, 1, 1, 1, 0, 1, 0, 1}, {0, 1, 1, 1, 1, 1, 0, 1, 0, 1},
            {0, 1, 1, 1, 1, 1, 1, 1, 1, 1}};
        int[][] played = {{NONE, 0, 0, 1, 2, 2, NONE, 4, NONE, 6}, {NONE, 0, 0, 0, 1, 2, NONE, 4, NONE, 6},
            {NONE, 0, 0, 0, 1, 2, 3, 4, 5, 6}};
        for (int n = 0; n <= 9; n++) {
            for (int gap = 1; gap <= 3; gap++) {
                UnlikeNeighbours x = Edge.all(LIVING, n);
                x.let(0, gap);
                e.due(n + " living ones with GAP " + gap, x.game(), ofLiving[gap - 1][n]);
            }
        }

        e.says(28, "The least good that wins the GAME, if it goes now.");
        e.due("the only one", Edge.all(GOAT, 1).play(), 0);
        e.due("all win", Edge.all(GOAT, 3).play(), 0);
        for (int n = 0; n <= 9; n++) {
            for (int gap = 1; gap <= 3; gap++) {
                UnlikeNeighbours x = Edge.all(LIVING, n);
                x.let(0, gap);
                e.due(n + " living ones with GAP " + gap, x.play(), played[gap - 1][n]);
            }
        }
        inAllSheds(PLAY);

        e.says(28, "NONE.");
        e.due("with no goods", noGoods().play(), NONE);
        e.due("with none IN", allOut().play(), NONE);
        e.due("locked in", lockedIn().play(), NONE);
        e.due("none wins", Edge.all(GOAT, 2).play(), NONE);
        e.due("none of three wins", Edge.all(LIVING, 6).play(), NONE);
    }
}
