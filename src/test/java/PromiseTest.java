import java.util.function.IntUnaryOperator;

/** For each promise what is ordinary, the edges that the document names, and what is refused. */
public final class PromiseTest {
    private static final int BAD = -1, FULL = -2, NONE = -3, STATE = -4;
    private static final int TWIN = 1, LIVING = 2, GOAT = 3, SEALED = 4, ROYAL = 5;

    private final Check check = new Check("PromiseTest");

    public static void main(String[] args) {
        PromiseTest test = new PromiseTest();
        test.newObject1();
        test.goods2To6();
        test.tape7();
        test.rules8();
        test.fees8();
        test.conditions8();
        test.faults8();
        test.beside9And10();
        test.whoGoes11To16();
        test.orders17To22();
        test.whatMightBe23To26();
        test.game27And28();
        test.reports29To32();
        test.lots33To35();
        test.rows36To39();
        test.sheets40To42();
        test.goes43();
        test.goats44();
        test.shelves45And46();
        test.acts47And48();
        test.many49();
        test.kept50And51();
        test.check.end();
    }

    private void due(String call, long got, long want) {
        check.due(call, got, want);
    }

    /** The answers for 0, 1, 2 .. are the wanted ones. */
    private void dueInTurn(String call, IntUnaryOperator asked, int... wanted) {
        for (int i = 0; i < wanted.length; i++) {
            due(call + " " + i, asked.applyAsInt(i), wanted[i]);
        }
    }

    /** Goods told by fours: KIND, BAY, CLOTH, WORTH. */
    private static UnlikeNeighbours shed(int... told) {
        UnlikeNeighbours x = new UnlikeNeighbours();
        for (int i = 0; i + 3 < told.length; i += 4) {
            x.good(told[i], told[i + 1], told[i + 2], told[i + 3]);
        }
        return x;
    }

    /** One good a bay, three at most, all of a KIND. */
    private static UnlikeNeighbours abreast(int... kinds) {
        UnlikeNeighbours x = new UnlikeNeighbours();
        for (int i = 0; i < kinds.length; i++) {
            x.good(kinds[i], i % 3, i, 10);
        }
        return x;
    }

    private int told(UnlikeNeighbours x, String text) {
        for (int from = 0; from < text.length(); from += 8) {
            int n = Math.min(8, text.length() - from);
            long eight = 0;
            for (int k = n - 1; k >= 0; k--) {
                eight = eight << 8 | text.charAt(from + k);
            }
            due("feed of " + text, x.feed(eight, n), from + n);
        }
        return x.rules();
    }

    private void newObject1() {
        UnlikeNeighbours x = new UnlikeNeighbours();
        dueInTurn("many, new", x::many, 0, 0, 0, 0, 0, 0, 0, BAD);
        due("again, new", x.again(), NONE);
        due("may, new", x.may(), 0);
        due("line, new", x.line(0), NONE);
        due("trace, new", x.trace(0), NONE);
        due("GAP at first", x.let(0, 2), 1);
        due("DAY at first", x.let(1, 2), 0);
        due("z at first", x.seed(2), 1);
        due("a SHEET at first", x.item(0, 0, 0), -11);
        due("a SHELF at first", x.taken(0, 0), -11);
        due("ROWS at first", x.row(0, 0), -9);
        due("judge, new", x.judge(), 0);
        x.good(LIVING, 0, 0, 1);
        for (int shelf = 0; shelf < 4; shelf++) {
            due("a SHELF holds no good at first", x.taken(shelf, 0), -11);
        }
    }

    private void goods2To6() {
        UnlikeNeighbours x = new UnlikeNeighbours();
        int[][] bad = {{0, 0, 0, 1}, {6, 0, 0, 1}, {-1, 0, 0, 1}, {1, -1, 0, 1}, {1, 3, 0, 1},
            {1, 0, -1, 1}, {1, 0, 10, 1}, {1, 0, 0, 0}, {1, 0, 0, 1000}, {1, 0, 0, -5}};
        for (int[] b : bad) {
            due("good that is bad", x.good(b[0], b[1], b[2], b[3]), BAD);
        }
        for (int i = 0; i < 9; i++) {
            due("good " + i, x.good(1 + i % 5, i % 3, i, i == 8 ? 999 : i + 1), i);
        }
        due("the tenth good", x.good(1, 0, 0, 1), FULL);
        due("bad comes ahead of full", x.good(6, 0, 0, 1), BAD);
        due("nine goods", x.many(0), 9);
        dueInTurn("goodOf 8", what -> x.goodOf(8, what), 4, 2, 8, 999, 1049, 3, -9, BAD);
        dueInTurn("goodOf 2", what -> x.goodOf(2, what), 3, 2, 2, 3, 1, 1, -9, BAD);
        due("goodOf nothing", x.goodOf(9, 0), BAD);
        due("goodOf below", x.goodOf(-1, 0), BAD);
        due("goodOf another what", x.goodOf(0, -1), BAD);
        due("go", x.go(8), 1049);
        dueInTurn("goodOf one OUT", what -> x.goodOf(8, what), 4, 2, 8, 999, 1049, 0, 0);
        due("a goat behind the last one", x.goodOf(7, 5), 3);
        due("no goat", x.remake(7, LIVING), GOAT);
        due("a TOP beside the last one", x.goodOf(7, 5), 2);
        due("a goat", x.remake(7, GOAT), LIVING);
        due("another one goes", x.go(6), 7);
        due("its place", x.goodOf(6, 6), 1);

        due("CLOTH", x.change(0, 2, 9), 0);
        due("CLOTH again", x.change(0, 2, 0), 9);
        due("CLOTH too high", x.change(0, 2, 10), BAD);
        due("CLOTH too low", x.change(0, 2, -1), BAD);
        due("WORTH", x.change(0, 3, 999), 1);
        due("WORTH again", x.change(0, 3, 1), 999);
        due("WORTH too low", x.change(0, 3, 0), BAD);
        due("WORTH too high", x.change(0, 3, 1000), BAD);
        due("another what", x.change(0, 0, 1), BAD);
        due("another what", x.change(0, 4, 1), BAD);
        due("change of nothing", x.change(9, 2, 1), BAD);
        due("change below", x.change(-1, 2, 1), BAD);
        due("it stayed", x.goodOf(0, 2) * 1000 + x.goodOf(0, 3), 1);

        due("remake", x.remake(0, 5), 1);
        due("remade", x.goodOf(0, 0), 5);
        due("the FEE by its KIND", x.goodOf(0, 4), 102);
        due("remake back", x.remake(0, 1), 5);
        due("remake to what it is", x.remake(0, 1), 1);
        due("remake of one OUT", x.remake(8, 1), 4);
        due("remake to 0", x.remake(0, 0), BAD);
        due("remake to 6", x.remake(0, 6), BAD);
        due("remake of nothing", x.remake(9, 1), BAD);

        due("let GAP", x.let(0, 3), 1);
        due("let GAP again", x.let(0, 1), 3);
        due("GAP 0", x.let(0, 0), BAD);
        due("GAP 4", x.let(0, 4), BAD);
        due("let DAY", x.let(1, 9), 0);
        due("let DAY again", x.let(1, 0), 9);
        due("DAY 10", x.let(1, 10), BAD);
        due("DAY -1", x.let(1, -1), BAD);
        due("let another what", x.let(2, 1), BAD);
        due("let below", x.let(-1, 1), BAD);
    }

    private void tape7() {
        UnlikeNeighbours x = new UnlikeNeighbours();
        due("no byte", x.feed(0, 0), BAD);
        due("nine bytes", x.feed(0, 9), BAD);
        due("below 0", x.feed(0, -1), BAD);
        for (int i = 1; i <= 24; i++) {
            due("feed", x.feed(0x2020202020202020L, 8), i * 8);
        }
        due("feed", x.feed(0x2020202020202020L, 7), 199);
        due("too many", x.feed(0x2020202020202020L, 2), FULL);
        due("bad ahead of full", x.feed(0, 9), BAD);
        due("it stayed", x.many(5), 199);
        due("the last one", x.feed('g', 1), 200);
        due("all full", x.feed('g', 1), FULL);
        due("the last byte's fault", x.rules(), -299);
        due("used up", x.many(5), 0);
        // The lowest byte comes first, and those above the n-th don't come.
        due("feed", x.feed(0x2020202064_6f6f67L, 4), 4);
        due("lowest first", x.rules(), -104);
        due("feed of a negative", x.feed(-1, 1), 1);
        due("a byte that is none of these", x.rules(), -100);
    }

    private void rules8() {
        UnlikeNeighbours x = shed(LIVING, 0, 1, 100);
        due("no RULES", told(x, ""), 0);
        due("blanks alone", told(x, "   "), 0);
        due("one", told(x, "living more 1;"), 1);
        due("more", x.goodOf(0, 4), 101);
        due("tight", told(x, "good if 1=1less5;living free;"), 2);
        due("the first that holds", x.goodOf(0, 4), 95);
        due("a FAULT", told(x, "good free"), -109);
        due("THE RULES stay", x.many(1), 2);
        due("and so do FEES", x.goodOf(0, 4), 95);
        due("THE TAPE is used up", x.many(5), 0);
        due("wide", told(x, "  living   if   ( number = 0 )   free  ;  "), 1);
        due("free", x.goodOf(0, 4), 0);
        due("in place of all", told(x, ""), 0);
        due("none", x.many(1), 0);
        due("eight", told(x, "twin free;goat free;good free;good free;"
            + "good free;good free;good free;good more 7;"), 8);
        due("free by the third", x.goodOf(0, 4), 0);
    }

    private void fees8() {
        UnlikeNeighbours x = shed(TWIN, 0, 1, 41, LIVING, 0, 2, 41, GOAT, 0, 3, 41, SEALED, 0, 4, 41,
            ROYAL, 0, 5, 41);
        x.let(1, 2);
        dueInTurn("FEE", g -> x.goodOf(g, 4), 20, 61, 58, 91, 182);
        due("good", told(x, "good more 100;"), 1);
        dueInTurn("good is above all", g -> x.goodOf(g, 4), 70, 161, 158, 191, 382);
        due("twin", told(x, "twin more 100;"), 1);
        dueInTurn("twin is above none", g -> x.goodOf(g, 4), 70, 61, 58, 91, 182);
        due("living", told(x, "living more 100;"), 1);
        dueInTurn("living is above goat", g -> x.goodOf(g, 4), 20, 161, 158, 91, 182);
        due("goat", told(x, "goat more 100;"), 1);
        dueInTurn("goat is above none", g -> x.goodOf(g, 4), 20, 61, 158, 91, 182);
        due("sealed", told(x, "sealed more 100;"), 1);
        dueInTurn("sealed is above royal", g -> x.goodOf(g, 4), 20, 61, 58, 191, 382);
        due("royal", told(x, "royal more 100;"), 1);
        dueInTurn("royal is above none", g -> x.goodOf(g, 4), 20, 61, 58, 91, 382);
        due("less", told(x, "good less 40;"), 1);
        dueInTurn("less", g -> x.goodOf(g, 4), 0, 21, 18, 51, 102);
        due("less than none", told(x, "good less 999;"), 1);
        dueInTurn("0 at least", g -> x.goodOf(g, 4), 0, 20, 17, 50, 100);
        due("free", told(x, "good free;"), 1);
        dueInTurn("free", g -> x.goodOf(g, 4), 0, 20, 17, 50, 100);
        x.let(1, 0);
        due("a goat costs 0 at least", x.goodOf(2, 4), 0);
        due("999 and 999", told(x, "good more 999;"), 1);
        x.change(4, 3, 999);
        due("the dearest", x.goodOf(4, 4), 4096);
        due("free of the greatest WORTH", told(x, "good free;"), 1);
        due("w is 0", x.goodOf(4, 4), 100);
    }

    private void holds(String condition, int want) {
        // Good 2 of three: GAP 2, DAY 4, CLOTH 6, WORTH 500.
        UnlikeNeighbours x = shed(LIVING, 0, 0, 1, LIVING, 0, 0, 1, SEALED, 0, 6, 500);
        x.let(0, 2);
        x.let(1, 4);
        due("rule of " + condition, told(x, "good if " + condition + " more 7;"), 1);
        due(condition, x.goodOf(2, 4) - 550, 7 * want);
    }

    private void conditions8() {
        String[] so = {"gap=2", "day = 4", "cloth=6", "worth=500", "number=2", "1<2", "2>1", "007=7",
            "9999=9999", "0=0000", "not 1=2", "not not 1=1", "not(1=2)", "not not(1=1)",
            "1=1 or 1=2", "1=2 or 1=1", "1=1 or 1=1 and 1=2", "1=2 and 1=1 or 1=1",
            "not 1=2 and 1=1", "not 1=1 or 1=1", "not (1=1 and 1=2)", "(((1=1)))",
            "(1=1) and (1=1) and (1=1) and (1=1)", "gap<day and day<cloth and cloth<worth",
            "(1=2 or (1=1 and (2=2)))", "1=2 or 1=2 or 1=1", "number<gap or number=gap"};
        for (String s : so) {
            holds(s, 1);
        }
        String[] not = {"gap=1", "day<4", "day>4", "cloth>6", "worth<500", "number=0", "1>2", "2<1",
            "1=2", "not 1=1", "not not 1=2", "not(1=1)", "1=1 and 1=2", "1=2 and 1=1",
            "(1=1 or 1=1) and 1=2", "1=2 and (1=1 or 1=1)", "not 1=1 and 1=2",
            "not (1=2 or 1=1)", "(((1=2)))", "1=1 and 1=1 and 1=2", "worth=507"};
        for (String s : not) {
            holds(s, 0);
        }
        UnlikeNeighbours x = shed(LIVING, 0, 3, 100);
        due("by CLOTH", told(x, "good if cloth=3 and worth>99 more 5;"), 1);
        due("FEE", x.goodOf(0, 4), 105);
        x.change(0, 2, 4);
        due("FEE by the CLOTH that it is now", x.goodOf(0, 4), 100);
        x.change(0, 2, 3);
        x.change(0, 3, 99);
        due("FEE by the WORTH that it is now", x.goodOf(0, 4), 99);
        due("each has its own", told(x, "good if 1=2 or 1=3 free; good if 1=1 and not 2=3 more 1;"
            + "good more 2;"), 3);
        due("the second", x.goodOf(0, 4), 100);
        due("each has its own", told(x, "good if 1=1 and 1=3 free; good if not 1=1 more 1;"
            + "good more 2;"), 3);
        due("the third", x.goodOf(0, 4), 101);
        String many = "good if 1=2";
        for (int k = 0; k < 24; k++) {
            many += k % 2 == 0 ? " or 1=2" : "or 1=2";
        }
        for (int k = 0; k < 5; k++) {
            due("as long as can be", told(x, many + " free;good if 1=2 or 1=1 less 9" + k + ";"), 2);
            due("that long, again", x.goodOf(0, 4), 9 - k);
        }
    }

    private void faultAt(String text, int place) {
        UnlikeNeighbours x = new UnlikeNeighbours();
        due("FAULT of " + text, told(x, text), -100 - place);
    }

    private void faults8() {
        faultAt("x", 0);
        faultAt("goods free;", 0);
        faultAt("  Good free;", 2);
        faultAt("go", 0);
        faultAt("goodz free;", 0);
        faultAt("good free; agood free;", 11);
        faultAt("((((((((((((((((((((((((((((((((((((((((((((((((((".repeat(4), 0);
        faultAt("good if not" + " not".repeat(47) + " ", 200);
        faultAt("7", 0);
        faultAt(";", 0);
        faultAt("free;", 0);
        faultAt("good", 4);
        faultAt("good  ", 6);
        faultAt("good;", 4);
        faultAt("good 5", 5);
        faultAt("good more", 9);
        faultAt("good more;", 9);
        faultAt("good more day;", 10);
        faultAt("good more 999", 13);
        faultAt("good more 1000;", 10);
        faultAt("good less 01000;", 10);
        faultAt("good more 0999 x", 15);
        faultAt("good more 5 5;", 12);
        faultAt("good free free;", 10);
        faultAt("good free; good", 15);
        faultAt("good if", 7);
        faultAt("good if free;", 8);
        faultAt("good if not;", 11);
        faultAt("good if 1", 9);
        faultAt("good if 1;", 9);
        faultAt("good if 1 2", 10);
        faultAt("good if 1=", 10);
        faultAt("good if 1==1", 10);
        faultAt("good if 1=1", 11);
        faultAt("good if 1=1;", 11);
        faultAt("good if 1=1) free;", 11);
        faultAt("good if 1=1 and", 15);
        faultAt("good if 1=1 and free;", 16);
        faultAt("good if 1=1 or and", 15);
        faultAt("good if 1=1 not", 12);
        faultAt("good if 1<10000 free;", 10);
        faultAt("good if 12345=1 free;", 8);
        faultAt("good if 1=1 12345", 12);
        faultAt("good if (1=1 free;", 13);
        faultAt("good if (1=1", 12);
        faultAt("good if ()", 9);
        faultAt("good if (gap) free;", 12);
        faultAt("good if ((((1=1)))) free;", 11);
        faultAt("good if ( ( 1=1 and ( 1=1 or (1=1)))) free;", 29);
        faultAt("good if kind=1 free;", 8);
        faultAt("good if good=1 free;", 8);
        faultAt("good\tfree;", 4);
        faultAt("good free.", 9);
        faultAt("good free;\n", 10);
        String eight = "good free;good free;good free;good free;"
            + "good free;good free;good free;good free;";
        faultAt(eight + "good free;", 80);
        faultAt(eight + " 5", 81);
        faultAt(eight + " ;", 81);
    }

    private void beside9And10() {
        UnlikeNeighbours x = shed(LIVING, 0, 1, 9, LIVING, 1, 2, 9, LIVING, 2, 3, 9, LIVING, 0, 4, 9,
            LIVING, 1, 5, 9);
        due("NEAR", x.beside(0, 1), 1);
        due("the other way", x.beside(1, 0), 1);
        due("not NEAR", x.beside(0, 2), 0);
        due("one and the same", x.beside(2, 2), BAD);
        due("none such", x.beside(0, 5), BAD);
        due("none such ahead", x.beside(-1, 0), BAD);
        dueInTurn("mates", x::mates, 2, 5, 10, 20, 8, BAD);
        due("mates of none", x.mates(-1), BAD);
        x.let(0, 2);
        dueInTurn("mates by GAP 2", x::mates, 6, 13, 27, 22, 12);
        x.let(0, 3);
        due("by GAP 3", x.beside(0, 3), 1);
        due("not by GAP 3", x.beside(0, 4), 0);
        x.let(0, 1);
        x.remake(1, GOAT);
        dueInTurn("a goat came beside nothing", x::mates, 0, 0, 8, 20, 8);

        // A twin of 4's CLOTH: it came beside what is NEAR 4, and so do those see it.
        x.remake(0, TWIN);
        x.change(0, 2, 5);
        due("by its twin", x.beside(0, 3), 1);
        due("seen from there", x.beside(3, 0), 1);
        due("4 is no third good for itself", x.beside(0, 4), 0);
        due("sets, too", x.mates(0), 8);
        x.go(4);
        due("one OUT counts as well", x.beside(0, 3), 1);
        x.remake(4, GOAT);
        due("and a goat", x.beside(0, 3), 1);
        x.remake(3, GOAT);
        due("but none came beside a goat", x.beside(0, 3), 0);
        x.remake(3, LIVING);
        x.change(4, 2, 6);
        due("not of its CLOTH", x.beside(0, 3), 0);
        x.change(4, 2, 5);
        due("of its CLOTH again", x.beside(0, 3), 1);
        x.remake(0, SEALED);
        due("no twin", x.beside(0, 3), 0);
    }

    private void whoGoes11To16() {
        UnlikeNeighbours x = shed(LIVING, 0, 0, 10, LIVING, 0, 0, 20, LIVING, 1, 0, 30,
            GOAT, 2, 0, 40);
        due("tops", x.tops(), 14);
        due("may: all tops", x.may(), 14);
        due("go under another", x.go(0), STATE);
        due("go of none", x.go(4), BAD);
        due("go below", x.go(-1), BAD);
        due("go", x.go(2), 30);
        due("go twice", x.go(2), STATE);
        due("tops behind it", x.tops(), 10);
        due("may behind it", x.may(), 8);
        due("1 came beside 2", x.go(1), STATE);
        due("a goat goes", x.go(3), 40);
        due("go", x.go(1), 20);
        due("no more may", x.may(), 0);
        due("a TOP is left", x.tops(), 1);
        dueInTurn("line", x::line, 2, 3, 1, NONE);
        due("line below", x.line(-1), NONE);
        due("paid", x.paid(), 30 + 80 + 60);
        x.let(1, 1);
        due("paid by what FEES are now", x.paid(), 40 + 100 + 90);
        due("many OUT", x.many(2), 3);
        due("come", x.come(), 1);
        due("IN again", x.goodOf(1, 5), 3);
        due("come", x.come(), 3);
        due("come", x.come(), 2);
        due("come of none", x.come(), NONE);
        due("paid of none", x.paid(), 0);
        due("as at first", x.may(), 14);
        due("a good on top", x.good(LIVING, 1, 0, 5), 4);
        due("tops", x.tops(), 26);
    }

    private void orders17To22() {
        // In a row of four by themselves only 1 3 0 2 and 2 0 3 1 come apart; 0 and 3 share a bay.
        UnlikeNeighbours x = shed(LIVING, 0, 0, 10, LIVING, 1, 0, 20, LIVING, 2, 0, 30,
            LIVING, 0, 0, 40);
        due("ways", x.ways(), 1);
        dueInTurn("way", x::way, 1, 3, 0, 2, NONE, NONE, NONE, NONE, NONE, BAD);
        due("way below", x.way(-1), BAD);
        due("longest", x.longest(), 4);
        dueInTurn("far", x::far, 1, 3, 0, 2, NONE, NONE, NONE, NONE, NONE, BAD);
        due("far below", x.far(-1), BAD);
        due("cheapest", x.cheapest(), 20 + 80 + 30 + 120);
        dueInTurn("cheap", x::cheap, 1, 3, 0, 2, NONE, NONE, NONE, NONE, NONE, BAD);
        due("cheap below", x.cheap(-1), BAD);
        due("nothing went", x.many(2), 0);

        // Three goats: all orders; the dearest goes first where that costs least.
        UnlikeNeighbours y = shed(GOAT, 0, 0, 10, GOAT, 1, 0, 30, GOAT, 2, 0, 20);
        due("ways of goats", y.ways(), 6);
        dueInTurn("way of goats", y::way, 0, 1, 2, NONE);
        due("cheapest of goats", y.cheapest(), 30 + 40 + 30);
        dueInTurn("cheap of goats", y::cheap, 1, 2, 0, NONE);
        y.change(0, 3, 30);
        y.change(2, 3, 30);
        dueInTurn("the first of several", y::cheap, 0, 1, 2);
        y.go(2);
        due("ways behind one", y.ways(), 2);
        due("places begin anew", y.cheapest(), 30 + 60);

        // Two beside one another: the second one stays.
        UnlikeNeighbours z = abreast(LIVING, LIVING);
        due("no way", z.ways(), 0);
        due("way of none", z.way(0), NONE);
        due("bad all the same", z.way(9), BAD);
        due("longest", z.longest(), 1);
        dueInTurn("far", z::far, 0, NONE);
        due("cheapest of none", z.cheapest(), NONE);
        due("cheap of none", z.cheap(0), NONE);
        due("bad all the same", z.cheap(-1), BAD);
        z.go(0);
        due("longest behind it", z.longest(), 0);
        due("far behind it", z.far(0), NONE);
        due("bad all the same", z.far(9), BAD);
        due("ways behind it", z.ways(), 0);

        // A fresh object's first question, and what is left of an earlier one.
        due("longest at once", abreast(LIVING, GOAT, GOAT).longest(), 3);
        due("far at once", abreast(LIVING, GOAT, GOAT).far(2), 2);
        due("cheapest at once", abreast(GOAT, GOAT).cheapest(), 10 + 2 * 9);
        due("cheap at once", abreast(GOAT, GOAT).cheap(1), 1);
        UnlikeNeighbours anew = abreast(GOAT, GOAT);
        due("longest of goats", anew.longest() * 10 + anew.game(), 20);
        anew.remake(0, LIVING);
        anew.remake(1, LIVING);
        due("longest of others", anew.longest() * 10 + anew.game(), 11);
        due("ways of others", anew.ways(), 0);

        // 0 came beside 1 and 3 (there by 2, of its CLOTH), those not beside one another.
        UnlikeNeighbours late = shed(GOAT, 0, 5, 1, LIVING, 1, 1, 1, GOAT, 0, 5, 1, LIVING, 2, 2, 1);
        late.go(2);
        dueInTurn("far, with 0 a goat", late::far, 0, 1, 3, NONE);
        late.remake(0, TWIN);
        dueInTurn("far, with 0 a twin", late::far, 1, 3, NONE);

        UnlikeNeighbours none = new UnlikeNeighbours();
        due("the empty way", none.ways(), 1);
        due("costs nothing", none.cheapest(), 0);
        due("has none", none.way(0), NONE);
        due("has none", none.cheap(0), NONE);

        UnlikeNeighbours nine =
            abreast(GOAT, GOAT, GOAT, GOAT, GOAT, GOAT, GOAT, GOAT, GOAT);
        due("three bays of three", nine.ways(), 1680);
        due("the ninth", nine.way(8), 2);
    }

    private void whatMightBe23To26() {
        // 0 lies under 1; 1 and 2 came beside one another, 0 and 1, too.
        UnlikeNeighbours x = shed(LIVING, 0, 0, 10, LIVING, 0, 0, 10, LIVING, 1, 0, 10);
        due("never", x.never(), 1);
        due("best, with no way at all", x.best(), 1);
        due("a goat of 1 lets all go", x.goat(), 1);
        due("it is none for that", x.goodOf(1, 0), LIVING);
        due("mates as they were", x.mates(1), 5);
        x.go(1);
        due("never, locked in", x.never(), 5);
        due("best of none", x.best(), NONE);
        due("one that lets both go", x.goat(), 0);
        UnlikeNeighbours out = abreast(LIVING, LIVING);
        out.go(0);
        due("not one that is OUT", out.goat(), 1);
        out.remake(1, GOAT);
        due("no more than now", out.goat(), NONE);

        UnlikeNeighbours y = shed(GOAT, 0, 0, 10, LIVING, 1, 0, 10, LIVING, 2, 0, 10);
        // 1 0 2 and 2 0 1 alone.
        due("ways", y.ways(), 2);
        due("best", y.best(), 1);
        due("goat, the least of several", y.goat(), 1);
        due("never", y.never(), 0);
        y.remake(1, GOAT);
        due("all goats or apart", y.ways(), 6);
        due("no more by a goat", y.goat(), NONE);
        due("best of equals", y.best(), 0);
        due("best at once", abreast(LIVING, LIVING, GOAT).best(), 0);
        due("best at once", abreast(LIVING, LIVING, LIVING, GOAT).best(), 1);
        due("best at once, not the least", shed(GOAT, 0, 0, 1, GOAT, 1, 0, 1, GOAT, 1, 0, 1).best(), 2);
        due("never at once", abreast(LIVING, LIVING).never(), 0);

        due("gapFor of goats", y.gapFor(), 3);
        UnlikeNeighbours z = shed(LIVING, 0, 0, 10, LIVING, 1, 0, 10, LIVING, 2, 0, 10,
            LIVING, 0, 0, 10);
        due("gapFor", z.gapFor(), 1);
        z.let(0, 3);
        due("gapFor from another GAP", z.gapFor(), 1);
        due("GAP stays", z.let(0, 1), 3);
        due("gapFor of none", abreast(LIVING, LIVING).gapFor(), NONE);
        UnlikeNeighbours two = shed(LIVING, 0, 0, 10, GOAT, 1, 0, 10, GOAT, 1, 0, 10,
            LIVING, 2, 0, 10);
        two.go(2);
        two.go(1);
        due("with two left", two.gapFor(), 2);
        due("rules that hang on GAP play no part", told(two, "good if gap=2 free;"), 1);
        due("so", two.gapFor(), 2);
        // 1 3 0 2 and 1 3 2 0 alone.
        UnlikeNeighbours best = shed(LIVING, 0, 0, 10, LIVING, 1, 0, 10, LIVING, 2, 0, 10,
            GOAT, 2, 0, 10);
        due("ways", best.ways(), 2);
        due("the one with most behind it", best.best(), 1);
    }

    private void game27And28() {
        UnlikeNeighbours x = new UnlikeNeighbours();
        due("with none", x.game(), 0);
        due("play of none", x.play(), NONE);
        x.good(GOAT, 0, 0, 1);
        due("with one", x.game(), 1);
        due("play it", x.play(), 0);
        x.good(GOAT, 1, 0, 1);
        due("with two", x.game(), 0);
        due("none wins", x.play(), NONE);
        // Two that came beside one another: who moves first has won.
        UnlikeNeighbours y = abreast(LIVING, LIVING);
        due("one goes", y.game(), 1);
        due("the least", y.play(), 0);
        y.go(1);
        due("none may", y.game(), 0);
        due("none", y.play(), NONE);
        // Of three abreast only 1 ends it at once; behind 0 the other one takes 2.
        UnlikeNeighbours z = abreast(LIVING, LIVING, LIVING);
        due("play at once", abreast(LIVING, LIVING, LIVING).play(), 1);
        due("play at once", abreast(GOAT, GOAT).play(), NONE);
        due("three", z.game(), 1);
        due("the middle one", z.play(), 1);
        due("nothing went", z.many(2), 0);
    }

    private void reports29To32() {
        UnlikeNeighbours x = new UnlikeNeighbours();
        due("of no good", x.report(0, 1), BAD);
        due("one place alone", x.span(0), 1);
        for (int i = 0; i < 5; i++) {
            x.good(i == 1 ? GOAT : LIVING, 0, 0, 1);
        }
        due("all fit", x.span(0), 6);
        due("could 2", x.report(0, 2), BAD);
        due("could -1", x.report(0, -1), BAD);
        due("below", x.report(-1, 0), BAD);
        due("report", x.report(2, 0), 0);
        // Not behind 2: places 2 and 3 (by GAP 1).
        dueInTurn("span", x::span, 2, 2, 3, BAD);
        due("span below", x.span(-1), BAD);
        x.let(0, 2);
        dueInTurn("span by GAP 2", x::span, 4, 1, 4);
        x.let(0, 3);
        dueInTurn("span by GAP 3", x::span, 6, 0, 5);
        x.let(0, 1);
        due("report", x.report(3, 1), 1);
        dueInTurn("and behind 3", x::span, 1, 2, 2);
        due("none lies", x.liar(), NONE);
        due("behind a goat", x.report(1, 1), 2);
        dueInTurn("tells nothing", x::span, 1, 2, 2);
        due("not behind a goat", x.report(1, 0), 3);
        dueInTurn("none fits", x::span, 0, NONE, NONE);
        due("who lies", x.liar(), 3);
        x.remake(1, LIVING);
        due("no goat: two of them are unlike", x.liar(), 2);
        x.remake(1, GOAT);
        due("report", x.report(4, 0), 4);
        due("no one alone lies", x.liar(), NONE);
        due("report", x.report(4, 1), 5);
        due("a seventh", x.report(4, 1), FULL);
        due("bad ahead of full", x.report(5, 1), BAD);
        due("many", x.many(3), 6);
        due("forget", x.forget(), 6);
        due("forgotten", x.forget(), 0);
        due("all fit", x.span(0), 6);
        due("anew", x.report(0, 1), 0);
        dueInTurn("behind 0", x::span, 4, 2, 5);
        x.forget();
        due("not behind 4", x.report(4, 0), 0);
        dueInTurn("the greatest place is behind all", x::span, 2, 4, 5);
        due("the least of two", x.report(0, 0), 1);
        due("is it", x.liar(), 0);
    }

    private void lots33To35() {
        UnlikeNeighbours x = abreast(GOAT, GOAT, GOAT);
        due("z at first", x.seed(1), 1);
        // 1103527590 >>> 16 is 16838, modulo 3 is 2.
        due("draw", x.draw(), 2);
        due("z goes on", x.seed(-1), 1103527590);
        // -1103502900 >>> 16 is 48697, modulo 2 is 1.
        due("draw", x.draw(), 1);
        due("z wraps", x.seed(0), -1103502900);
        due("draw", x.draw(), 0);
        due("z", x.seed(5), 12345);
        due("draw of none", x.draw(), NONE);
        due("z stays", x.seed(1), 5);
        due("line", x.line(0) * 100 + x.line(1) * 10 + x.line(2), 210);
        due("often with none IN", x.often(7), 7);

        UnlikeNeighbours y = shed(GOAT, 0, 0, 10, LIVING, 1, 0, 10, LIVING, 2, 0, 10);
        due("often 0", y.often(0), BAD);
        due("often 61", y.often(61), BAD);
        int before = y.often(60);
        due("often again", y.often(60), before);
        int byHand = 0;
        for (int run = 0; run < 60; run++) {
            int went = 0;
            while (y.draw() != NONE) {
                went++;
            }
            byHand += went == 3 ? 1 : 0;
            for (int k = 0; k < went; k++) {
                y.come();
            }
        }
        due("often as by hand", before, byHand);
        y.seed(1);
        due("runs go on from one another", y.often(1) * 10 + y.often(2), 11);
        due("all is as it was", y.seed(3), 1);
        due("none went", y.many(2), 0);
        UnlikeNeighbours z = abreast(LIVING, LIVING);
        due("never all", z.often(60), 0);
    }

    private void rows36To39() {
        UnlikeNeighbours x = shed(LIVING, 0, 0, 10, LIVING, 1, 0, 20, LIVING, 2, 0, 30,
            LIVING, 0, 0, 40);
        due("judge of none", x.judge(), 0);
        due("prove", x.prove(), 4);
        dueInTurn("row 0", what -> x.row(0, what), 1, 3, 20, -9);
        dueInTurn("row 3", what -> x.row(3, what), 2, 0, 30, -9);
        due("no row", x.row(4, 0), -9);
        due("row below", x.row(-1, 0), -9);
        due("what below", x.row(0, -1), -9);
        due("all right", x.judge(), 0);
        int[][] wrong = {{0, 0, 9, 1}, {0, 0, -1, 1}, {0, 0, 32 + 1, 1}, {0, 0, 2, 1},
            {1, 0, 0, 2}, {3, 0, 1, 4}, {2, 1, 0, 3}, {1, 2, 41, 2}, {3, 2, 0, 4}};
        for (int[] w : wrong) {
            int was = x.row(w[0], w[1]);
            due("alterRow", x.alterRow(w[0], w[1], w[2]), was);
            due("altered", x.row(w[0], w[1]), w[2]);
            due("judge of " + w[0] + " " + w[1] + " " + w[2], x.judge(), w[3]);
            due("back", x.alterRow(w[0], w[1], was), w[2]);
        }
        due("all right again", x.judge(), 0);
        due("alterRow of no row", x.alterRow(4, 0, 1), -9);
        due("alterRow below", x.alterRow(-1, 0, 1), -9);
        due("alterRow of another what", x.alterRow(0, 3, 1), -9);
        due("alterRow of another what", x.alterRow(0, -1, 1), -9);
        x.change(2, 3, 31);
        due("a FEE is another now", x.judge(), 4);
        x.change(2, 3, 30);
        x.go(1);
        due("from how it is now", x.judge(), 1);
        due("prove behind it", x.prove(), 3);
        due("many", x.many(4), 3);
        due("right", x.judge(), 0);
        x.let(0, 3);
        due("prove of none", x.prove(), NONE);
        due("ROWS stay", x.many(4) * 10 + x.row(0, 0), 33);
        x.let(0, 1);
        x.good(GOAT, 1, 0, 5);
        due("how many are IN is another", x.judge(), 1);
        x.alterRow(0, 1, 3);
        x.alterRow(1, 1, 2);
        due("so far", x.judge(), 3);
        x.alterRow(2, 1, 1);
        due("behind the last one another may go", x.judge(), 3);
        x.come();
        UnlikeNeighbours y = new UnlikeNeighbours();
        due("prove of the empty way", y.prove(), 0);
        y.good(GOAT, 0, 0, 1);
        due("no ROW is wrong", y.judge(), 0);
        due("prove", y.prove(), 1);
        y.go(0);
        due("it is OUT", y.judge(), 1);
        due("prove with none IN", y.prove(), 0);
        due("no row", y.row(0, 0), -9);
    }

    private void sheets40To42() {
        UnlikeNeighbours x = new UnlikeNeighbours();
        due("no SHEET", x.sheet(4, 0, 1), BAD);
        due("no SHEET", x.sheet(-1, 0, 1), BAD);
        due("no sort", x.sheet(0, 5, 1), BAD);
        due("no sort", x.sheet(0, -2, 1), BAD);
        due("too many", x.sheet(0, 0, 41), BAD);
        due("below 0", x.sheet(0, 0, -1), -14);
        due("bad ahead", x.sheet(4, 0, -1), BAD);
        due("missing counts nothing", x.sheet(0, -1, 41), 1);
        due("missing counts nothing", x.sheet(0, -1, -1), 1);
        due("write in none", x.write(0, 0, 1), -11);
        due("item of none", x.item(0, 0, 0), -11);
        due("write in no SHEET", x.write(4, 0, 1), BAD);
        due("forty", x.sheet(0, 0, 40), 1);
        due("the last", x.write(0, 39, 1), 1);
        due("behind it", x.write(0, 40, 1), -12);
        due("ahead", x.write(0, -1, 1), -12);
        due("item", x.item(0, 0, 39), 1);
        due("item at first", x.item(0, 0, 38), 0);
        due("item behind", x.item(0, 0, 40), -12);
        due("item ahead", x.item(0, 0, -1), -12);
        due("none", x.sheet(3, 2, 0), 1);
        due("nothing in it", x.item(3, 2, 0), -12);
        due("nothing in it", x.write(3, 0, 1), -12);
        int[][] narrowed = {{44, 300, -2147483648, -2147483648, 1}};
        int[] told = {300, 300, -2147483648, -2147483648, -2147483648};
        for (int sort = 0; sort < 5; sort++) {
            due("sheet", x.sheet(1, sort, 3), 1);
            due("write", x.write(1, 2, told[sort]), 1);
            due("item of sort " + sort, x.item(1, sort, 2), narrowed[0][sort]);
            due("another is 0", x.item(1, sort, 1), 0);
            due("write -1", x.write(1, 2, -1), 1);
            due("item", x.item(1, sort, 2), sort == 4 ? 1 : -1);
            due("write 0", x.write(1, 2, 0), 1);
            due("item", x.item(1, sort, 2), 0);
            x.write(1, 2, 1);
            due("another sort", x.item(1, (sort + 1) % 5, 2), -13);
            due("another sort ahead of a place outside", x.item(1, (sort + 1) % 5, 3), -13);
            due("no sort", x.item(1, 5, 2), BAD);
            due("no sort", x.item(1, -1, 2), BAD);
        }
        x.sheet(1, 0, 3);
        due("all 0 anew", x.item(1, 0, 2), 0);
        x.write(1, 0, 128);
        due("a byte", x.item(1, 0, 0), -128);
        x.sheet(1, 1, 3);
        x.write(1, 0, 98304);
        due("a short", x.item(1, 1, 0), -32768);
        due("item of no SHEET", x.item(4, 0, 0), BAD);
        due("item of no SHEET", x.item(-1, 0, 0), BAD);
        due("missing again", x.sheet(1, -1, 0), 1);
        due("item", x.item(1, 1, 0), -11);
    }

    /** A SHEET of bytes. */
    private static void bytes(UnlikeNeighbours x, int sheet, int... items) {
        x.sheet(sheet, 0, items.length);
        for (int i = 0; i < items.length; i++) {
            x.write(sheet, i, items[i]);
        }
    }

    private void goes43() {
        UnlikeNeighbours x = shed(LIVING, 0, 0, 10, LIVING, 1, 0, 20, LIVING, 2, 0, 30,
            LIVING, 0, 0, 40);
        due("no SHEET", x.goes(4, 0, 1), BAD);
        due("n below", x.goes(0, 0, -1), BAD);
        due("n above", x.goes(0, 0, 21), BAD);
        due("bad ahead of missing", x.goes(0, 0, 21), BAD);
        due("missing", x.goes(0, 0, 1), -11);
        x.sheet(0, 2, 3);
        due("another sort", x.goes(0, 9, 1), -13);
        bytes(x, 0, 7, 1, -1, 2, 3, 3, 99, 0, 2);
        due("of none", x.goes(0, 0, 0), 0);
        due("of none, outside", x.goes(0, 99, 0), 0);
        due("goes", x.goes(0, 1, 4), 2);
        due("two went", x.many(2), 2);
        due("behind the end", x.goes(0, 5, 5), -12);
        due("what stood ahead was done", x.many(2), 4);
        dueInTurn("line", x::line, 1, 3, 0, 2, NONE);
        x.come();
        due("ahead", x.goes(0, -1, 4), -12);
        due("nothing stood ahead", x.many(2), 3);
        due("far outside", x.goes(0, Integer.MAX_VALUE, 2), -12);
        due("all of 20", shedOf20().goes(0, 0, 20), 3);
    }

    private static UnlikeNeighbours shedOf20() {
        UnlikeNeighbours x = abreast(GOAT, GOAT, GOAT);
        bytes(x, 0, 9, 9, 9, 9, 9, 9, 9, 9, 9, 9, 9, 9, 9, 9, 9, 9, 9, 0, 1, 2);
        return x;
    }

    private void goats44() {
        UnlikeNeighbours x = shed(LIVING, 0, 0, 10, LIVING, 1, 0, 20, LIVING, 2, 0, 30,
            LIVING, 0, 0, 40);
        due("no SHEET", x.goats(-1, 0, 1), BAD);
        due("n below", x.goats(0, 0, -1), BAD);
        due("n above", x.goats(0, 0, 10), BAD);
        due("missing", x.goats(0, 0, 1), -11);
        x.sheet(0, 3, 3);
        due("another sort", x.goats(0, 0, 1), -13);
        bytes(x, 0, 3, 2, 1, 0);
        due("of none", x.goats(0, 9, 0), 0);
        due("one", x.goats(0, 0, 1), 0);
        due("between each", x.goats(0, 0, 4), 3);
        due("nothing went", x.many(2), 0);
        due("no TOP", x.goats(0, 3, 1), STATE);
        due("outside", x.goats(0, 3, 2), STATE);
        due("outside", x.goats(0, 0, 5), -12);
        due("ahead", x.goats(0, -1, 2), -12);
        bytes(x, 1, 1, 3, 0, 2);
        due("none between", x.goats(1, 0, 4), 0);
        x.go(2);
        bytes(x, 2, 1, 3, 0);
        due("ahead of the first one", x.goats(2, 0, 3), 1);
        bytes(x, 2, 2);
        due("it is OUT", x.goats(2, 0, 1), STATE);
        bytes(x, 2, 1, 1);
        due("not twice", x.goats(2, 0, 2), STATE);
        bytes(x, 2, -1);
        due("no good", x.goats(2, 0, 1), STATE);
        bytes(x, 2, 4, 1);
        due("no good", x.goats(2, 0, 2), STATE);
        due("one is OUT", x.many(2), 1);
        due("the others may as before", x.may(), 0);
    }

    private void shelves45And46() {
        UnlikeNeighbours x = abreast(TWIN, LIVING, GOAT, SEALED, ROYAL);
        due("no SHELF", x.shelf(4, 2, 0), BAD);
        due("no SHELF", x.shelf(-1, 2, 0), BAD);
        due("no what", x.shelf(0, 3, 0), BAD);
        due("no what", x.shelf(0, -1, 0), BAD);
        due("no good", x.shelf(0, 0, 5), BAD);
        due("no good", x.shelf(0, 0, -1), BAD);
        due("no SHEET", x.shelf(0, 1, 4), BAD);
        due("no SHEET", x.shelf(0, 1, -1), BAD);
        due("nothing, whatever n", x.shelf(0, 2, 99), 1);
        due("taken of nothing", x.taken(0, 0), -11);
        due("taken of nothing as a row", x.taken(0, 10), -11);
        // By kinds: 1 twin, 2 living, 3 goat, 4 sealed, 5 royal are the goods 0 to 4.
        int[][] under = {{0, 1, 2, 3, 4}, {0}, {1, 2}, {2}, {3, 4}, {4}};
        for (int as = 0; as < 6; as++) {
            for (int g = 0; g < 5; g++) {
                due("shelf", x.shelf(1, 0, g), 1);
                boolean is = false;
                for (int u : under[as]) {
                    is |= u == g;
                }
                due("good " + g + " as " + as, x.taken(1, as), is ? g : -13);
            }
        }
        due("a good as a row", x.taken(1, 12), -13);
        due("as 6", x.taken(1, 6), BAD);
        due("as 9", x.taken(1, 9), BAD);
        due("as 15", x.taken(1, 15), BAD);
        due("as -1", x.taken(1, -1), BAD);
        due("no SHELF", x.taken(4, 0), BAD);
        due("no SHELF", x.taken(-1, 0), BAD);
        due("shelf of a missing row", x.shelf(2, 1, 0), 1);
        due("holds nothing", x.taken(2, 10), -11);
        for (int sort = 0; sort < 5; sort++) {
            x.sheet(sort % 4, sort, sort + 3);
            due("shelf", x.shelf(2, 1, sort % 4), 1);
            due("its row", x.taken(2, 10 + sort), sort + 3);
            due("of another sort", x.taken(2, 10 + (sort + 1) % 5), -13);
            due("a row as a good", x.taken(2, 0), -13);
        }
        x.sheet(0, 2, 9);
        due("the row that it was stays there", x.taken(2, 14), 7);
        x.sheet(0, -1, 0);
        due("it stays there, too", x.taken(2, 14), 7);
        due("put away", x.shelf(2, 2, 0), 1);
        due("nothing", x.taken(2, 14), -11);

        due("the last SHELF", x.shelf(3, 0, 4), 1);
        due("its good", x.taken(3, 5), 4);
        due("its act", x.act(3, 0, 9), 5);

        UnlikeNeighbours y = abreast(TWIN);
        y.keep();
        y.good(LIVING, 0, 4, 5);
        y.shelf(0, 0, 1);
        due("a good", y.taken(0, 2), 1);
        y.remake(1, SEALED);
        due("of another KIND now", y.taken(0, 2), -13);
        y.again();
        due("there is none such at the time", y.taken(0, 2), -11);
        due("nor an act", y.act(0, 0, 5), 0);
        y.good(GOAT, 0, 4, 5);
        due("there is one again", y.taken(0, 2), 1);
    }

    private void acted(UnlikeNeighbours x, int g, int act, int with, int want, int... bodies) {
        String call = "act " + act + " of good " + g;
        x.shelf(0, 0, g);
        due(call, x.act(0, act, with), want);
        dueInTurn("trace of " + call, x::trace, bodies);
        due("its end", x.trace(bodies.length), NONE);
        due("how many", x.many(6), bodies.length);
    }

    private void acts47And48() {
        // Numbers 0 to 4, CLOTHS 7, 4, 9, 1, 2: a - n is 7, 3, 7, -2, -2.
        UnlikeNeighbours x = shed(TWIN, 0, 7, 1, LIVING, 0, 4, 1, GOAT, 0, 9, 1, SEALED, 0, 1, 1,
            ROYAL, 0, 2, 1);
        acted(x, 0, 0, 10, 20, 20, 10);
        acted(x, 0, 1, 10, 60, 11, 20, 10);
        acted(x, 0, 2, 30, 4, 12);
        acted(x, 0, 2, -30, -4, 12);
        acted(x, 0, 3, 10, 60 ^ 7, 13, 11, 20, 10);
        acted(x, 1, 0, 10, 9, 10);
        acted(x, 1, 1, 10, 31, 30, 11, 10);
        acted(x, 1, 2, 10, 3, 12);
        acted(x, 1, 3, 10, 31 ^ 4, 13, 30, 11, 10);
        acted(x, 2, 0, 10, 8 ^ 9, 50, 10);
        acted(x, 2, 1, 10, 12, 30, 11, 50, 10);
        acted(x, 2, 2, 20, 2, 12);
        acted(x, 2, 3, 10, 5, 51, 13, 30, 11, 50, 10, 12);
        acted(x, 3, 0, 10, 7, 10);
        acted(x, 3, 1, 10, 21, 11, 10);
        acted(x, 3, 2, 10, -4, 40, 12);
        acted(x, 3, 3, 10, 20, 13, 11, 10);
        acted(x, 3, 2, 11, -5, 40, 12);
        acted(x, 4, 0, 10, 6, 10);
        acted(x, 4, 1, 10, -18, 60, 11, 10);
        acted(x, 4, 2, 10, -6, 61, 40, 12, 10);
        acted(x, 4, 3, 10, -18 ^ 2, 13, 60, 11, 10);
        acted(x, 3, 2, Integer.MIN_VALUE, Integer.MAX_VALUE / -2, 40, 12);
        acted(x, 0, 1, Integer.MIN_VALUE, 0, 11, 20, 10);
        x.change(2, 2, 1);
        // ((10 - 2) ^ 1) * 3 + 1, ^ 1, less 2 / -1.
        acted(x, 2, 3, 10, (28 ^ 1) + 2, 51, 13, 30, 11, 50, 10, 12);
        // goat of CLOTH 1 as number 2: parted by -1.
        x.change(2, 2, 1);
        acted(x, 2, 2, Integer.MIN_VALUE, Integer.MIN_VALUE, 12);
        // Parted by 0: that is all; what stands behind doesn't run.
        x.change(2, 2, 2);
        acted(x, 2, 2, 10, -15, 12);
        acted(x, 2, 3, 10, -15, 51, 13, 30, 11, 50, 10, 12);
        x.change(3, 2, 3);
        acted(x, 3, 2, 10, -15, 40, 12);
        x.change(4, 2, 4);
        acted(x, 4, 2, 10, -15, 61, 40, 12);
        acted(x, 4, 0, 11, 7, 10);

        int[][] none = {{-1, 0}, {4, 0}, {0, -1}, {0, 4}, {1, 0}, {2, 0}};
        x.sheet(0, 2, 5);
        x.shelf(2, 1, 0);
        for (int[] n : none) {
            x.shelf(0, 0, 0);
            due("an act", x.act(0, 0, 5), 10);
            due("its trace", x.trace(0), 20);
            due("no act", x.act(n[0], n[1], 5), 0);
            due("no trace", x.trace(0), NONE);
            due("no trace", x.many(6), 0);
        }
        x.act(0, 0, 5);
        due("trace below", x.trace(-1), NONE);
        x.remake(0, SEALED);
        due("what it is now", x.act(0, 0, 5), 5);
    }

    private void many49() {
        UnlikeNeighbours x = abreast(GOAT, LIVING, GOAT);
        told(x, "good free;good more 1;");
        x.go(0);
        for (int i = 0; i < 4; i++) {
            x.report(1, 1);
        }
        x.prove();
        x.feed(0, 5);
        x.shelf(0, 0, 0);
        x.act(0, 3, 1);
        dueInTurn("many", x::many, 3, 2, 1, 4, 2, 5, 7, BAD);
        due("many below", x.many(-1), BAD);
    }

    private void kept50And51() {
        UnlikeNeighbours x = shed(LIVING, 0, 1, 10, LIVING, 1, 2, 20, GOAT, 2, 3, 30);
        due("nothing kept", x.again(), NONE);
        told(x, "good more 1;");
        x.let(0, 2);
        x.let(1, 3);
        x.seed(77);
        x.report(0, 1);
        x.go(1);
        x.prove();
        x.feed(0, 3);
        x.sheet(0, 2, 4);
        x.shelf(0, 0, 2);
        x.shelf(1, 1, 0);
        due("keep", x.keep(), 1);
        told0(x);
        due("again", x.again(), 3);
        asKept(x);
        // What is kept stays, and isn't touched by what comes behind.
        told0(x);
        due("again", x.again(), 3);
        asKept(x);
        due("the GAP counts", x.may(), 4);
        x.let(0, 1);
        x.go(2);
        due("keep anew", x.keep(), 1);
        x.come();
        due("the latest", x.again(), 3);
        due("two OUT", x.many(2), 2);
        due("not kept: ROWS", x.many(4), 2);
        due("not kept: THE TAPE", x.many(5), 0);
        due("not kept: SHEETS", x.item(0, 1, 0), 0);
        due("not kept: SHELVES", x.taken(0, 2), 0);
        due("not kept: THE TRACE", x.trace(0), 10);
    }

    /** All becomes another. */
    private static void told0(UnlikeNeighbours x) {
        x.rules();
        x.forget();
        x.report(2, 0);
        x.seed(1);
        x.let(0, 1);
        x.let(1, 0);
        x.change(0, 2, 9);
        x.change(0, 3, 999);
        x.come();
        x.remake(0, ROYAL);
        x.good(TWIN, 0, 9, 9);
        x.go(2);
        x.shelf(0, 0, 0);
        x.act(0, 0, 5);
        x.sheet(0, 1, 2);
        x.prove();
    }

    private void asKept(UnlikeNeighbours x) {
        due("goods", x.many(0), 3);
        due("mates", x.mates(1), 1);
        due("rules", x.many(1), 1);
        due("one OUT", x.many(2), 1);
        due("the line", x.line(0), 1);
        due("reports", x.many(3), 1);
        due("span", x.span(0), 1);
        dueInTurn("good 0", what -> x.goodOf(0, what), 2, 0, 1, 10, 41, 1 + 1, -9);
        due("z", x.seed(77), 77);
        due("gap", x.let(0, 2), 2);
        due("day", x.let(1, 3), 3);
        due("place", x.span(1), 3);
    }
}
