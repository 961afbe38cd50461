import java.io.IOException;

/** The Terms' part 1, promises 1 to 6 and 9 to 16: goods, who came beside whom, who goes. */
public final class EdgesOfGoodsTest {
    private static final int BAD = Edge.BAD, FULL = Edge.FULL, NONE = Edge.NONE, STATE = Edge.STATE;
    private static final int TWIN = Edge.TWIN, LIVING = Edge.LIVING, GOAT = Edge.GOAT,
        SEALED = Edge.SEALED, ROYAL = Edge.ROYAL;

    private final Edge e;

    private EdgesOfGoodsTest(String[] args) throws IOException {
        e = new Edge("EdgesOfGoodsTest", args);
    }

    public static void main(String[] args) throws IOException {
        EdgesOfGoodsTest test = new EdgesOfGoodsTest(args);
        test.termsOfGoods();
        test.termsOfFees();
        test.termsOfBeside();
        test.termsOfTheLine();
        test.newObject1();
        test.good2();
        test.goodOf3();
        test.change4();
        test.remake5AndLet6();
        test.beside9AndMates10();
        test.may11AndTops12();
        test.go13AndCome14();
        test.line15AndPaid16();
        test.e.end();
    }

    private void termsOfGoods() {
        e.says(0, "1 GOODS, 9 at most, numbered as they came:");
        UnlikeNeighbours x = new UnlikeNeighbours();
        for (int i = 0; i < 9; i++) {
            e.due("good", x.good(1 + i % 5, i % 3, i, 100 + i), i);
            e.due("how many", x.many(0), i + 1);
        }
        e.due("a tenth", x.good(GOAT, 0, 0, 1), FULL);
        e.gone(x, 7);
        e.due("a tenth with one OUT", x.good(GOAT, 0, 0, 1), FULL);
        e.due("how many", x.many(0), 9);
        e.inTurn("WORTH", g -> x.goodOf(g, 3), 100, 101, 102, 103, 104, 105, 106, 107, 108, BAD);

        e.says(0, "a KIND, a BAY (0 to 2), CLOTH (0 to 9), WORTH (1 to 999);");
        e.outside("KIND", v -> new UnlikeNeighbours().good(v, 0, 0, 1), TWIN, ROYAL, BAD);
        e.outside("BAY", v -> new UnlikeNeighbours().good(TWIN, v, 0, 1), 0, 2, BAD);
        e.outside("CLOTH", v -> new UnlikeNeighbours().good(TWIN, 0, v, 1), 0, 9, BAD);
        e.outside("WORTH", v -> new UnlikeNeighbours().good(TWIN, 0, 0, v), 1, 999, BAD);
        for (int kind = TWIN; kind <= ROYAL; kind++) {
            e.due("KIND", Edge.shed(kind, 0, 0, 1).goodOf(0, 0), kind);
        }
        for (int bay = 0; bay <= 2; bay++) {
            e.due("BAY", Edge.shed(TWIN, bay, 0, 1).goodOf(0, 1), bay);
        }
        for (int cloth = 0; cloth <= 9; cloth++) {
            e.due("CLOTH", Edge.shed(TWIN, 0, cloth, 1).goodOf(0, 2), cloth);
        }
        for (int worth : new int[] {1, 2, 127, 128, 255, 256, 998, 999}) {
            e.due("WORTH", Edge.shed(TWIN, 0, 0, worth).goodOf(0, 3), worth);
        }

        e.says(0, "each is IN (at first) or OUT.");
        UnlikeNeighbours in = Edge.shed(GOAT, 0, 0, 1, GOAT, 0, 0, 1);
        e.due("under another", in.goodOf(0, 5), 1);
        e.due("on top", in.goodOf(1, 5), 3);
        e.due("none OUT", in.many(2), 0);
        e.gone(in, 1);
        e.due("one OUT", in.goodOf(1, 5), 0);
        e.due("one comes IN while one is OUT", in.good(GOAT, 0, 0, 1), 2);
        e.due("it is IN", in.goodOf(2, 5), 3);
        e.due("the other one is OUT", in.goodOf(1, 5), 0);

        e.says(0, "GAP is 1 to 3 (1 at first), DAY 0 to 9 (0 at first).");
        UnlikeNeighbours y = Edge.all(LIVING, 3);
        e.due("GAP 1 by BESIDE", y.beside(0, 1) * 10 + y.beside(0, 2), 10);
        e.due("DAY 0 by FEE", y.goodOf(0, 4), 10);
        int was = 1;
        for (int gap : new int[] {1, 2, 3, 1}) {
            e.due("GAP", y.let(0, gap), was);
            was = gap;
        }
        was = 0;
        for (int day : new int[] {0, 1, 2, 3, 4, 5, 6, 7, 8, 9, 0, 9}) {
            e.due("DAY", y.let(1, day), was);
            e.due("FEE by DAY", y.goodOf(0, 4), 10 + 10 * day);
            was = day;
        }
        e.outside("GAP", v -> y.let(0, v), 1, 3, BAD);
        e.outside("DAY", v -> y.let(1, v), 0, 9, BAD);
        e.due("GAP stayed", y.let(0, 1), 1);
        e.due("DAY stayed", y.let(1, 0), 9);

        e.says(0, "KINDS: 0 good; 1 twin, 2 living, 4 sealed (under good); 3 goat (under living);"
            + " 5 royal (under sealed).");
        int[] above = {0, 1, 2, 4, 8, 16};
        int[] goodsUnder = {31, 1, 2 | 4, 4, 8 | 16, 16};
        UnlikeNeighbours z = Edge.kinds(TWIN, LIVING, GOAT, SEALED, ROYAL);
        for (int as = 0; as < above.length; as++) {
            for (int g = 0; g < 5; g++) {
                z.shelf(0, 0, g);
                boolean isUnder = (goodsUnder[as] >> g & 1) == 1;
                e.due("good " + g + " taken as " + as, z.taken(0, as), isUnder ? g : -13);
            }
        }
    }

    private void ruled(UnlikeNeighbours x, String text, int... fees) {
        e.due("RULES of " + text, Edge.told(x, text) >= 0 ? 1 : 0, 1);
        e.inTurn("FEE by " + text, g -> x.goodOf(g, 4), fees);
    }

    private void termsOfFees() {
        e.says(0, "A RULE changes what a good costs: the first of THE RULES whose KIND is its or above"
            + " it, and whose condition holds.");
        UnlikeNeighbours x = Edge.kinds(TWIN, LIVING, GOAT, SEALED, ROYAL);
        ruled(x, "", 5, 10, 8, 60, 120);
        ruled(x, "good more 2;", 6, 12, 10, 62, 124);
        ruled(x, "twin more 2;", 6, 10, 8, 60, 120);
        ruled(x, "living more 2;", 5, 12, 10, 60, 120);
        ruled(x, "goat more 2;", 5, 10, 10, 60, 120);
        ruled(x, "sealed more 2;", 5, 10, 8, 62, 124);
        ruled(x, "royal more 2;", 5, 10, 8, 60, 124);
        ruled(x, "living more 2; goat more 4; good more 6;", 8, 12, 10, 66, 132);
        ruled(x, "goat more 4; living more 2; good more 6;", 8, 12, 12, 66, 132);
        ruled(x, "good more 0; good more 6;", 5, 10, 8, 60, 120);
        ruled(x, "good if 1=2 more 2; good if 1=1 more 4; good if 1=1 more 6;", 7, 14, 12, 64, 128);
        ruled(x, "good if 1=2 more 2;", 5, 10, 8, 60, 120);
        ruled(x, "goat if 1=2 more 2; good if number=2 more 4; good more 6;", 8, 16, 12, 66, 132);
        String never = "good if 1=2 free;";
        ruled(x, never.repeat(7) + "good more 2;", 6, 12, 10, 62, 124);

        e.says(0, "w: WORTH; by more N: N more; by less N: N less (0 at least); by free: 0.");
        UnlikeNeighbours y = Edge.shed(LIVING, 0, 0, 1, LIVING, 0, 0, 2, LIVING, 0, 0, 5, LIVING, 0, 0, 999);
        ruled(y, "good more 0;", 1, 2, 5, 999);
        ruled(y, "good more 1;", 2, 3, 6, 1000);
        ruled(y, "good more 999;", 1000, 1001, 1004, 1998);
        ruled(y, "good less 0;", 1, 2, 5, 999);
        ruled(y, "good less 1;", 0, 1, 4, 998);
        ruled(y, "good less 4;", 0, 0, 1, 995);
        ruled(y, "good less 5;", 0, 0, 0, 994);
        ruled(y, "good less 6;", 0, 0, 0, 993);
        ruled(y, "good less 998;", 0, 0, 0, 1);
        ruled(y, "good less 999;", 0, 0, 0, 0);
        ruled(y, "good free;", 0, 0, 0, 0);

        e.says(0, "FEE: twin: half of w. living: w and 10 times DAY. goat: as living, less CLOTH (0 at"
            + " least). sealed: w and 50. royal: twice as sealed.");
        UnlikeNeighbours z = Edge.shed(TWIN, 0, 0, 1, LIVING, 0, 0, 1, GOAT, 0, 1, 1, SEALED, 0, 0, 1,
            ROYAL, 0, 0, 1);
        ruled(z, "", 0, 1, 0, 51, 102);
        ruled(z, "good more 1;", 1, 2, 1, 52, 104);
        ruled(z, "good more 2;", 1, 3, 2, 53, 106);
        ruled(z, "good free;", 0, 0, 0, 50, 100);
        z.change(2, 2, 9);
        ruled(z, "good more 7;", 4, 8, 0, 58, 116);
        ruled(z, "good more 8;", 4, 9, 0, 59, 118);
        ruled(z, "good more 9;", 5, 10, 1, 60, 120);
        ruled(z, "good less 9;", 0, 0, 0, 50, 100);
        z.let(1, 1);
        // The 0 of w comes ahead of what DAY and CLOTH do.
        ruled(z, "good less 9;", 0, 10, 1, 50, 100);
        z.let(1, 9);
        ruled(z, "good free;", 0, 90, 81, 50, 100);
        UnlikeNeighbours dear = Edge.shed(TWIN, 0, 9, 999, LIVING, 0, 9, 999, GOAT, 0, 9, 999,
            SEALED, 0, 9, 999, ROYAL, 0, 9, 999);
        dear.let(1, 9);
        ruled(dear, "", 499, 1089, 1080, 1049, 2098);
        ruled(dear, "good more 999;", 999, 2088, 2079, 2048, 4096);
    }

    private void termsOfBeside() {
        e.says(0, "NEAR: two of which the numbers are unlike by GAP at most.");
        UnlikeNeighbours x = Edge.all(LIVING, 9);
        for (int gap = 1; gap <= 3; gap++) {
            x.let(0, gap);
            for (int g = 0; g < 9; g++) {
                for (int h = 0; h < 9; h++) {
                    if (g != h) {
                        int want = g - h <= gap && h - g <= gap ? 1 : 0;
                        e.due("GAP " + gap + " beside(" + g + ", " + h + ")", x.beside(g, h), want);
                    }
                }
            }
        }

        e.says(0, "Two came BESIDE one another, if neither is a goat, and they are NEAR,");
        UnlikeNeighbours y = Edge.kinds(LIVING, SEALED, GOAT, ROYAL, TWIN, LIVING);
        e.inTurn("of all KINDS but goat", y::mates, 2, 1, 0, 16, 40, 16, BAD);
        y.let(0, 3);
        e.inTurn("by GAP 3", y::mates, 2 + 8, 1 + 8 + 16, 0, 1 + 2 + 16 + 32, 2 + 8 + 32, 8 + 16, BAD);

        e.says(0, "or one is a twin and some third good of its CLOTH (IN or OUT, a goat, too) is NEAR the"
            + " other one.");
        // 0 is the twin; 4 is of its CLOTH, so 0 came beside 3 and 5, not beside 2, 6 or 4 itself.
        UnlikeNeighbours z = Edge.all(LIVING, 7);
        z.remake(0, TWIN);
        z.change(4, 2, 0);
        e.inTurn("by the third good", z::mates, 2 + 8 + 32, 5, 10, 21, 40, 81, 32, BAD);
        e.due("seen from the other one", z.beside(3, 0) * 10 + z.beside(0, 3), 11);
        z.let(0, 2);
        e.due("NEAR by GAP 2", z.mates(0), 2 + 4 + 8 + 32 + 64);
        z.let(0, 1);
        z.remake(4, GOAT);
        e.due("a goat, too", z.mates(0), 2 + 8 + 32);
        UnlikeNeighbours out = Edge.all(LIVING, 7);
        out.remake(0, TWIN);
        out.change(4, 2, 0);
        e.gone(out, 4);
        e.due("OUT", out.mates(0), 2 + 8 + 32);
        z.remake(3, GOAT);
        e.due("not beside a goat", z.mates(0) * 100 + z.mates(3), 3400);
        z.remake(0, GOAT);
        e.due("nor is a goat", z.mates(0), 0);
        z.remake(0, SEALED);
        z.remake(3, LIVING);
        e.due("no twin", z.mates(0), 2);
        // The CLOTH is the twin's: a third good of the other one's CLOTH does nothing.
        UnlikeNeighbours other = Edge.all(LIVING, 7);
        other.remake(6, TWIN);
        other.change(5, 2, 0);
        e.due("of the other one's CLOTH", other.beside(6, 0), 0);
        other.change(1, 2, 6);
        e.due("of its CLOTH", other.beside(6, 0), 1);
        // A third good is neither of the two, though the other one is of its CLOTH and NEAR itself.
        UnlikeNeighbours two = Edge.shed(TWIN, 0, 1, 1, GOAT, 0, 2, 1, TWIN, 0, 1, 1);
        e.due("no third good", two.beside(0, 2), 0);
        two.change(1, 2, 1);
        e.due("a third good", two.beside(0, 2), 1);
        UnlikeNeighbours both = Edge.shed(TWIN, 0, 1, 1, GOAT, 0, 2, 1, GOAT, 0, 3, 1, TWIN, 0, 4, 1);
        e.due("two twins", both.beside(0, 3), 0);
        both.change(1, 2, 4);
        e.due("by the second one's CLOTH", both.beside(0, 3), 1);
        both.change(1, 2, 1);
        e.due("that is not NEAR the other one", both.beside(0, 3), 0);
        both.change(2, 2, 1);
        e.due("by the first one's CLOTH", both.beside(0, 3), 1);
        // The third one with the greatest number, and with the least.
        UnlikeNeighbours nine = Edge.all(LIVING, 9);
        nine.remake(1, TWIN);
        nine.change(8, 2, 1);
        e.due("the last good is the third", nine.mates(1), 1 + 4 + 128);
        nine.change(8, 2, 8);
        nine.remake(1, LIVING);
        nine.remake(7, TWIN);
        nine.change(0, 2, 7);
        e.due("the first good is the third", nine.mates(7), 2 + 64 + 256);
    }

    private void termsOfTheLine() {
        e.says(0, "THE LINE: those that are OUT, as they went.");
        UnlikeNeighbours x = Edge.all(GOAT, 5);
        e.inTurn("empty", x::line, NONE);
        e.gone(x, 4, 2, 1);
        e.inTurn("three", x::line, 4, 2, 1, NONE);
        x.come();
        e.inTurn("two", x::line, 4, 2, NONE);
        e.gone(x, 3);
        e.inTurn("three again", x::line, 4, 2, 3, NONE);

        e.says(0, "TOP: one that is IN, while no good with a greater number is IN in its BAY.");
        UnlikeNeighbours y = Edge.shed(GOAT, 0, 0, 1, GOAT, 0, 0, 1, GOAT, 2, 0, 1, GOAT, 0, 0, 1);
        e.due("tops", y.tops(), 4 + 8);
        e.gone(y, 3);
        e.due("the one below", y.tops(), 2 + 4);
        e.gone(y, 1, 0);
        e.due("an empty bay", y.tops(), 4);
        e.due("OUT is no TOP", y.goodOf(0, 5), 0);
        y.come();
        e.due("back below no one", y.tops(), 1 + 4);
        e.due("a new one", y.good(LIVING, 0, 0, 1), 4);
        e.due("on top", y.tops(), 16 + 4);
        e.due("in bay 1", y.good(LIVING, 1, 0, 1), 5);
        e.due("three bays", y.tops(), 16 + 4 + 32);

        e.says(0, "MAY GO: a TOP, if THE LINE is empty or its last one didn't come BESIDE it.");
        UnlikeNeighbours z = Edge.all(LIVING, 6);
        e.due("THE LINE is empty", z.may(), 8 + 16 + 32);
        e.gone(z, 4);
        e.due("3 and 5 came beside it", z.may(), 2);
        e.due("and yet are TOPS", z.tops(), 2 + 8 + 32);
        z.come();
        e.gone(z, 5);
        e.due("4 came beside it", z.may(), 8 + 4);
        e.gone(z, 3);
        e.due("the last one alone counts", z.may(), 1);
        z.come();
        z.come();
        e.due("empty again", z.may(), 8 + 16 + 32);
        UnlikeNeighbours by = Edge.shed(LIVING, 0, 0, 1, GOAT, 1, 0, 1, LIVING, 1, 1, 1);
        e.gone(by, 0);
        e.due("no TOP, though not beside the last one", by.may(), 4);
        by.remake(0, TWIN);
        e.due("beside it by 1, which is of its CLOTH", by.may(), 0);
    }

    private void newObject1() {
        e.says(1, "No GOODS, RULES, REPORTS; nothing is kept.");
        UnlikeNeighbours old = Edge.all(GOAT, 3);
        Edge.told(old, "good free;");
        old.report(0, 1);
        old.let(0, 3);
        old.let(1, 7);
        old.seed(99);
        old.prove();
        old.sheet(0, 0, 4);
        old.shelf(0, 0, 0);
        old.act(0, 0, 1);
        Edge.feed(old, "goo");
        old.keep();
        // Whatever another object has, a new one has none of it.
        UnlikeNeighbours x = new UnlikeNeighbours();
        e.due("nothing is kept", x.again(), NONE);
        e.inTurn("many", x::many, 0, 0, 0, 0, 0, 0, 0, BAD);
        e.due("no good", x.goodOf(0, 0), BAD);
        e.due("no mates", x.mates(0), BAD);
        e.due("none may, none is a TOP", x.may() + x.tops(), 0);
        e.due("THE LINE is empty", x.come(), NONE);
        e.due("one PLACE fits", x.span(0) * 10 + x.span(1) + x.span(2), 10);
        e.due("no REPORTS", x.forget(), 0);
        e.due("GAP", x.let(0, 1), 1);
        e.due("DAY", x.let(1, 0), 0);
        e.due("z", x.seed(1), 1);
        e.due("ROWS", x.row(0, 0), -9);
        for (int i = 0; i < 4; i++) {
            e.due("SHEET " + i, x.item(i, 0, 0), -11);
            e.due("SHELF " + i, x.taken(i, 10), -11);
        }
        e.due("THE TRACE", x.trace(0), NONE);
        e.due("the first good", x.good(SEALED, 0, 0, 1), 0);
        e.due("its FEE by no RULES", x.goodOf(0, 4), 51);
        e.due("the old one has its own", old.many(0) * 10 + old.goodOf(0, 4), 30 + 70);
    }

    private void good2() {
        e.says(2, "A good of a KIND 1 to 5: its number.");
        UnlikeNeighbours x = new UnlikeNeighbours();
        for (int kind = 1; kind <= 5; kind++) {
            e.due("good", x.good(kind, kind % 3, kind, kind), kind - 1);
            e.due("KIND", x.goodOf(kind - 1, 0), kind);
        }
        e.due("the KIND of all", x.good(0, 0, 0, 1), BAD);
        e.due("its number", x.good(GOAT, 0, 0, 1), 5);

        e.says(2, "BAD; FULL.");
        UnlikeNeighbours y = Edge.all(GOAT, 8);
        e.due("bad with room for one", y.good(GOAT, 3, 0, 1), BAD);
        e.due("room for one", y.good(GOAT, 0, 0, 1), 8);
        e.outside("KIND ahead of FULL", v -> y.good(v, 0, 0, 1), 1, 5, BAD);
        e.outside("BAY ahead of FULL", v -> y.good(1, v, 0, 1), 0, 2, BAD);
        e.outside("CLOTH ahead of FULL", v -> y.good(1, 0, v, 1), 0, 9, BAD);
        e.outside("WORTH ahead of FULL", v -> y.good(1, 0, 0, v), 1, 999, BAD);
        e.due("full", y.good(1, 0, 0, 1), FULL);
        e.due("full", y.good(5, 2, 9, 999), FULL);
    }

    private void goodOf3() {
        e.says(3, "Of a good: what = 0 KIND, 1 BAY, 2 CLOTH, 3 WORTH, 4 FEE,");
        UnlikeNeighbours x = Edge.shed(GOAT, 2, 9, 999, ROYAL, 1, 0, 1);
        e.inTurn("of good 0, what", what -> x.goodOf(0, what), 3, 2, 9, 999, 990);
        e.inTurn("of good 1, what", what -> x.goodOf(1, what), 5, 1, 0, 1, 102);
        e.gone(x, 0);
        e.inTurn("of one OUT, what", what -> x.goodOf(0, what), 3, 2, 9, 999, 990, 0, 0, BAD);

        e.says(3, "5 3 if it MAY GO, else 2 if it is a TOP, else 1 if it is IN, else 0,");
        UnlikeNeighbours y = Edge.shed(LIVING, 0, 0, 1, LIVING, 1, 0, 1, LIVING, 0, 0, 1, GOAT, 2, 0, 1,
            LIVING, 2, 0, 1);
        e.inTurn("standing of", g -> y.goodOf(g, 5), 1, 3, 3, 1, 3, BAD);
        e.gone(y, 1);
        e.inTurn("behind 1, standing of", g -> y.goodOf(g, 5), 1, 0, 2, 1, 3, BAD);
        e.gone(y, 4);
        e.inTurn("behind 4, standing of", g -> y.goodOf(g, 5), 1, 0, 3, 3, 0, BAD);

        e.says(3, "6 its place in THE LINE (from 0; -9: it is IN).");
        UnlikeNeighbours z = Edge.all(GOAT, 9);
        e.inTurn("all IN, place of", g -> z.goodOf(g, 6), -9, -9, -9, -9, -9, -9, -9, -9, -9, BAD);
        e.gone(z, 8, 5, 2, 6, 3, 0, 7, 4, 1);
        e.inTurn("all OUT, place of", g -> z.goodOf(g, 6), 5, 8, 2, 4, 7, 1, 3, 6, 0, BAD);
        z.come();
        e.due("IN again", z.goodOf(1, 6), -9);

        e.says(3, "BAD.");
        for (int what = 0; what <= 6; what++) {
            int asked = what;
            e.outside("what " + what + " of good", g -> x.goodOf(g, asked), 0, 1, BAD);
            e.outside("what " + what + " of good", g -> z.goodOf(g, asked), 0, 8, BAD);
        }
        e.outside("what", what -> x.goodOf(0, what), 0, 6, BAD);
    }

    private void change4() {
        e.says(4, "CLOTH (what 2), WORTH (3) of a good becomes v: what it was.");
        UnlikeNeighbours x = Edge.shed(LIVING, 0, 5, 100, LIVING, 1, 6, 200);
        int[][] told = {{2, 0, 5}, {2, 9, 0}, {2, 9, 9}, {3, 1, 100}, {3, 999, 1}, {3, 999, 999}};
        for (int[] one : told) {
            e.due("change", x.change(0, one[0], one[1]), one[2]);
            e.due("what it is", x.goodOf(0, one[0]), one[1]);
        }
        e.due("of the other one", x.goodOf(1, 2) * 1000 + x.goodOf(1, 3), 6200);
        e.gone(x, 1);
        e.due("of one OUT", x.change(1, 3, 7), 200);
        e.due("its FEE", x.goodOf(1, 4), 7);
        e.due("what was paid", x.paid(), 7);
        UnlikeNeighbours twin = Edge.shed(TWIN, 0, 1, 1, LIVING, 1, 2, 1, LIVING, 2, 3, 1);
        e.due("not by 1", twin.beside(0, 2), 0);
        twin.change(1, 2, 1);
        e.due("by 1, of its CLOTH now", twin.beside(0, 2), 1);
        twin.change(0, 2, 2);
        e.due("no more", twin.beside(0, 2), 0);

        e.says(4, "BAD.");
        e.outside("CLOTH of good", g -> x.change(g, 2, 1), 0, 1, BAD);
        e.outside("WORTH of good", g -> x.change(g, 3, 1), 0, 1, BAD);
        e.outside("what", what -> x.change(0, what, 1), 2, 3, BAD);
        e.outside("CLOTH", v -> x.change(0, 2, v), 0, 9, BAD);
        e.outside("WORTH", v -> x.change(0, 3, v), 1, 999, BAD);
        e.inTurn("all stayed: what", what -> x.goodOf(0, what), 2, 0, 9, 999);
        e.due("of none", new UnlikeNeighbours().change(0, 2, 1), BAD);
    }

    private void remake5AndLet6() {
        e.says(5, "A good becomes one of another KIND (1 to 5): the KIND that it was.");
        UnlikeNeighbours x = Edge.shed(LIVING, 0, 1, 10, LIVING, 1, 2, 10);
        int was = LIVING;
        int[] fees = {0, 5, 10, 9, 60, 120};
        for (int kind : new int[] {1, 3, 5, 4, 2, 1, 5}) {
            e.due("remake", x.remake(0, kind), was);
            e.due("KIND", x.goodOf(0, 0), kind);
            e.due("FEE", x.goodOf(0, 4), fees[kind]);
            e.due("BESIDE", x.beside(0, 1), kind == GOAT ? 0 : 1);
            was = kind;
        }
        e.due("the other one stays", x.goodOf(1, 0), LIVING);
        e.gone(x, 0);
        e.due("of one OUT", x.remake(0, GOAT), ROYAL);
        e.due("1 may go behind a goat", x.may(), 2);

        e.says(5, "BAD.");
        e.outside("KIND", kind -> x.remake(1, kind), 1, 5, BAD);
        e.outside("good", g -> x.remake(g, 1), 0, 1, BAD);
        e.due("it stayed", x.goodOf(1, 0), LIVING);
        e.due("of none", new UnlikeNeighbours().remake(0, 1), BAD);

        e.says(6, "GAP (what 0), DAY (1) becomes v: what it was.");
        UnlikeNeighbours y = Edge.all(LIVING, 4);
        e.due("GAP", y.let(0, 3), 1);
        e.due("BESIDE by GAP 3", y.beside(0, 3), 1);
        e.due("DAY stayed", y.goodOf(0, 4), 10);
        e.due("DAY", y.let(1, 3), 0);
        e.due("FEE by DAY 3", y.goodOf(0, 4), 40);
        e.due("GAP", y.let(0, 2), 3);
        e.due("BESIDE by GAP 2", y.beside(0, 3) * 10 + y.beside(0, 2), 1);
        e.due("DAY", y.let(1, 0), 3);

        e.says(6, "BAD.");
        e.outside("what", what -> y.let(what, 1), 0, 1, BAD);
        e.outside("GAP", v -> y.let(0, v), 1, 3, BAD);
        e.outside("DAY", v -> y.let(1, v), 0, 9, BAD);
        e.due("they stayed", y.let(0, 1) * 10 + y.let(1, 1), 20);
    }

    private void beside9AndMates10() {
        e.says(9, "Whether two came BESIDE one another: 1, 0.");
        UnlikeNeighbours x = Edge.all(LIVING, 9);
        e.due("the first two", x.beside(0, 1) * 10 + x.beside(1, 0), 11);
        e.due("the last two", x.beside(7, 8) * 10 + x.beside(8, 7), 11);
        e.due("the first and the last", x.beside(0, 8) + x.beside(8, 0), 0);
        e.gone(x, 7);
        e.due("one OUT", x.beside(7, 8) * 10 + x.beside(7, 5), 10);

        e.says(9, "BAD: also one and the same.");
        for (int g = 0; g < 9; g++) {
            e.due("one and the same", x.beside(g, g), BAD);
        }
        e.outside("first", g -> x.beside(g, 0), 0, 8, BAD);
        e.outside("second", h -> x.beside(0, h), 0, 8, BAD);
        UnlikeNeighbours one = Edge.all(LIVING, 1);
        e.outside("the only good beside", h -> one.beside(0, h), 0, 0, BAD);
        e.due("a goat and itself", Edge.all(GOAT, 2).beside(1, 1), BAD);
        e.due("none", new UnlikeNeighbours().beside(0, 1), BAD);

        e.says(10, "Those that came BESIDE it, as a set.");
        e.inTurn("mates of", x::mates, 2, 5, 10, 20, 40, 80, 160, 320, 128);
        e.due("of the only one", one.mates(0), 0);
        x.let(0, 3);
        e.due("of the last", x.mates(8), 32 + 64 + 128);
        e.due("of the middle one", x.mates(4), 2 + 4 + 8 + 32 + 64 + 128);

        e.says(10, "BAD.");
        e.outside("mates", x::mates, 0, 8, BAD);
        e.outside("mates", one::mates, 0, 0, BAD);
        e.due("of none", new UnlikeNeighbours().mates(0), BAD);
    }

    private void may11AndTops12() {
        UnlikeNeighbours x = Edge.all(GOAT, 9);
        UnlikeNeighbours low = Edge.shed(LIVING, 1, 0, 1, LIVING, 1, 0, 1, LIVING, 1, 0, 1);
        e.says(11, "Those that MAY GO, as a set.");
        e.due("with no goods", new UnlikeNeighbours().may(), 0);
        e.due("the greatest numbers", x.may(), 64 + 128 + 256);
        e.due("one bay alone", low.may(), 4);
        e.gone(low, 2);
        e.due("the one below came beside it", low.may(), 0);
        low.remake(2, GOAT);
        e.due("behind a goat", low.may(), 2);
        low.remake(2, LIVING);

        e.says(12, "TOPS, as a set.");
        e.due("with no goods", new UnlikeNeighbours().tops(), 0);
        e.due("the greatest numbers", x.tops(), 64 + 128 + 256);
        e.due("also one that may not go", low.tops(), 2);
        e.gone(x, 8, 7, 6, 5, 4, 3, 2, 1);
        e.due("one is left", x.tops() * 10 + x.may(), 11);
        e.gone(x, 0);
        e.due("none is left", x.tops() * 10 + x.may(), 0);
    }

    private void go13AndCome14() {
        e.says(13, "A good goes (it is OUT then): its FEE.");
        UnlikeNeighbours x = Edge.shed(TWIN, 0, 0, 1, ROYAL, 1, 9, 999, GOAT, 2, 9, 5);
        Edge.told(x, "royal more 999;");
        e.due("the dearest", x.go(1), 4096);
        e.due("OUT", x.goodOf(1, 5) * 10 + x.goodOf(1, 6), 0);
        e.due("a FEE of 0 is no refusal", x.go(2), 0);
        e.due("OUT", x.goodOf(2, 5) * 10 + x.goodOf(2, 6), 1);
        e.due("the last one", x.go(0), 0);
        e.due("all OUT", x.many(2), 3);

        e.says(13, "BAD; STATE: it may not.");
        e.inTurn("all are OUT, go", x::go, STATE, STATE, STATE, BAD);
        UnlikeNeighbours y = Edge.shed(LIVING, 0, 0, 1, LIVING, 1, 0, 1, LIVING, 1, 0, 1);
        e.outside("go", y::go, 0, 2, BAD);
        e.due("under another one", y.go(1), STATE);
        e.gone(y, 2);
        e.due("beside the last one", y.go(1), STATE);
        e.due("twice", y.go(2), STATE);
        e.due("nothing more went", y.many(2), 1);
        e.due("the one that may goes", y.go(0), 1);
        e.due("of none", new UnlikeNeighbours().go(0), BAD);

        e.says(14, "The last one of THE LINE comes back (it is IN then): its number.");
        UnlikeNeighbours z = Edge.all(GOAT, 9);
        e.gone(z, 8, 5, 2, 6, 3, 0, 7, 4, 1);
        for (int g : new int[] {1, 4, 7, 0, 3, 6, 2, 5, 8}) {
            e.due("come", z.come(), g);
            e.due("IN", z.goodOf(g, 5), 3);
            e.due("no place", z.goodOf(g, 6), -9);
        }
        e.due("all IN", z.many(2), 0);

        e.says(14, "NONE: THE LINE is empty.");
        e.due("all came back", z.come(), NONE);
        e.due("none more OUT", z.many(2), 0);
        e.due("none went", Edge.all(GOAT, 1).come(), NONE);
        e.due("no goods", new UnlikeNeighbours().come(), NONE);
    }

    private void line15AndPaid16() {
        e.says(15, "The i-th (from 0) of THE LINE.");
        UnlikeNeighbours x = Edge.all(GOAT, 9);
        e.gone(x, 8, 5, 2, 6, 3, 0, 7, 4, 1);
        e.inTurn("line", x::line, 8, 5, 2, 6, 3, 0, 7, 4, 1);

        e.says(15, "NONE.");
        e.outside("line of nine", x::line, 0, 8, NONE);
        x.come();
        e.outside("line of eight", x::line, 0, 7, NONE);
        UnlikeNeighbours y = Edge.all(GOAT, 3);
        e.outside("empty line", y::line, 0, -1, NONE);
        e.outside("line without goods", new UnlikeNeighbours()::line, 0, -1, NONE);

        e.says(16, "COST of THE LINE as an order.");
        e.due("empty", y.paid(), 0);
        e.due("no goods", new UnlikeNeighbours().paid(), 0);
        y.change(0, 3, 100);
        e.gone(y, 0);
        e.due("one", y.paid(), 100);
        e.gone(y, 2);
        e.due("two", y.paid(), 100 + 2 * 8);
        y.come();
        e.due("one again", y.paid(), 100);
        UnlikeNeighbours dear = Edge.shed(ROYAL, 0, 0, 999, GOAT, 1, 1, 999);
        Edge.told(dear, "good more 999;");
        e.gone(dear, 0, 1);
        e.due("FEES as they are now", dear.paid(), 4096 + 2 * 1997);
        Edge.told(dear, "good free;");
        e.due("FEES as they are now", dear.paid(), 100);
        UnlikeNeighbours nine = Edge.all(GOAT, 9);
        e.gone(nine, 8, 5, 2, 6, 3, 0, 7, 4, 1);
        int want = 0;
        int[] order = {8, 5, 2, 6, 3, 0, 7, 4, 1};
        for (int i = 0; i < 9; i++) {
            want += (10 - order[i]) * (i + 1);
        }
        e.due("nine places", nine.paid(), want);
    }
}
