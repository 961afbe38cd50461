import java.io.IOException;

/** The Terms' part 3 on REPORTS, on lots and on ROWS, promises 29 to 39. */
public final class EdgesOfCratesTest {
    private static final int BAD = Edge.BAD, FULL = Edge.FULL, NONE = Edge.NONE;
    private static final int LIVING = Edge.LIVING, GOAT = Edge.GOAT, ROYAL = Edge.ROYAL;
    private static final int[] SEEDS = {0, 1, -1, 2, 77, 65535, 65536, -65536, 12345, -12345, 1 << 30,
        Integer.MAX_VALUE, Integer.MIN_VALUE, 1103515245, -1103515245, 1103527590, 987654321, -987654321};

    private final Edge e;

    private EdgesOfCratesTest(String[] args) throws IOException {
        e = new Edge("EdgesOfCratesTest", args);
    }

    public static void main(String[] args) throws IOException {
        EdgesOfCratesTest test = new EdgesOfCratesTest(args);
        test.termsOfReports();
        test.termsOfLots();
        test.termsOfRows();
        test.report29AndForget30();
        test.span31AndLiar32();
        test.seed33AndDraw34();
        test.often35();
        test.prove36AndRow37();
        test.alterRow38AndJudge39();
        test.e.end();
    }

    /** PLACES that FIT are those of the set. */
    private void places(String when, UnlikeNeighbours x, int set) {
        e.due("how many PLACES " + when, x.span(0), Integer.bitCount(set));
        e.due("the least PLACE " + when, x.span(1), set == 0 ? NONE : Integer.numberOfTrailingZeros(set));
        e.due("the greatest PLACE " + when, x.span(2), set == 0 ? NONE : 31 - Integer.numberOfLeadingZeros(set));
    }

    private static int setOf(int least, int most) {
        int set = 0;
        for (int place = Math.max(0, least); place <= most; place++) {
            set |= 1 << place;
        }
        return set;
    }

    private void termsOfReports() {
        e.says(0, "A REPORT (6 at most): a good, whether a stranger's crate could have gone right behind it"
            + " (1, 0).");
        UnlikeNeighbours x = Edge.all(LIVING, 2);
        for (int i = 0; i < 6; i++) {
            e.due("report", x.report(1, 0), i);
            e.due("how many", x.many(3), i + 1);
        }
        e.due("a seventh", x.report(1, 0), FULL);
        e.due("how many", x.many(3), 6);

        e.says(0, "PLACES (0 to how many GOODS there are) that FIT: the crate came ahead of the good with the"
            + " number of that PLACE (behind the one ahead of that); it could go right behind a goat, and"
            + " behind goods with numbers below PLACE less GAP, or not below PLACE and GAP together, behind"
            + " no others; each REPORT is so then.");
        for (int goods = 0; goods <= 9; goods++) {
            places("of " + goods + " goods without a REPORT", Edge.all(LIVING, goods), setOf(0, goods));
        }
        for (int gap = 1; gap <= 3; gap++) {
            for (int g = 0; g < 9; g++) {
                UnlikeNeighbours y = Edge.all(LIVING, 9);
                y.let(0, gap);
                y.report(g, 0);
                // Not behind g: from g less GAP, and 1 more, to g and GAP together.
                int not = setOf(g - gap + 1, Math.min(9, g + gap));
                places("not behind " + g + " by GAP " + gap, y, not);
                y.forget();
                y.report(g, 1);
                places("behind " + g + " by GAP " + gap, y, setOf(0, 9) & ~not);
                y.remake(g, GOAT);
                places("behind a goat " + g, y, setOf(0, 9));
                y.forget();
                y.report(g, 0);
                places("not behind a goat " + g, y, 0);
            }
        }
        UnlikeNeighbours z = Edge.all(LIVING, 6);
        z.report(1, 0);
        z.report(2, 0);
        places("not behind 1 and 2", z, 4);
        z.report(5, 1);
        places("but behind 5", z, 4);
        z.report(4, 0);
        places("of REPORTS that go not together", z, 0);
        z.let(0, 3);
        places("by GAP 3", z, 4);
        UnlikeNeighbours grown = Edge.all(LIVING, 3);
        grown.report(2, 0);
        places("of three goods", grown, 4 + 8);
        grown.let(0, 2);
        places("by GAP 2", grown, 2 + 4 + 8);
        grown.good(LIVING, 0, 0, 1);
        places("with a fourth good", grown, 2 + 4 + 8 + 16);
        e.gone(grown, 2);
        places("with the good OUT", grown, 2 + 4 + 8 + 16);

        e.says(0, "LIAR: if none FITS, the least REPORT but for which some would.");
        UnlikeNeighbours liars = Edge.all(LIVING, 9);
        liars.report(0, 0);
        liars.report(8, 0);
        e.due("of two either", liars.liar(), 0);
        liars.report(7, 0);
        e.due("the one against two", liars.liar(), 0);
        liars.report(6, 1);
        e.due("also with one more", liars.liar(), 0);
        liars.report(1, 0);
        e.due("two against two", liars.liar(), NONE);
        liars.forget();
        for (int k = 0; k < 5; k++) {
            liars.report(8, 0);
        }
        liars.report(0, 0);
        e.due("the last of six", liars.liar(), 5);
        liars.forget();
        liars.report(4, 0);
        e.due("none lies", liars.liar(), NONE);
        liars.remake(4, GOAT);
        e.due("the only one", liars.liar(), 0);
    }

    // ---- lots

    private static int behind(int z) {
        return (int) (z * 1103515245L + 12345L);
    }

    private static int lotOf(int z, int count) {
        return (int) ((z & 0xffffffffL) / 65536) % count;
    }

    private void termsOfLots() {
        e.says(0, "DRAWN: z (an int; 1 at first) becomes z * 1103515245 + 12345: of those that MAY GO, by"
            + " numbers (from 0), number (z >>> 16) modulo how many goes.");
        UnlikeNeighbours fresh = Edge.all(GOAT, 3);
        e.due("DRAWN at first", fresh.draw(), lotOf(1103527590, 3));
        e.due("z then", fresh.seed(0), 1103527590);
        int[][] sheds = {{0, 1, 2}, {6, 7, 8}, {5, 6}, {2, 4}, {3}};
        for (int seed : SEEDS) {
            UnlikeNeighbours[] made = {Edge.all(GOAT, 3), Edge.all(GOAT, 9), e.gone(Edge.all(GOAT, 8), 7, 4, 1),
                e.gone(Edge.kinds(GOAT, LIVING, GOAT, LIVING, GOAT, LIVING), 5, 3, 0), oneMayGo()};
            for (int i = 0; i < made.length; i++) {
                int free = 0;
                for (int g : sheds[i]) {
                    free |= 1 << g;
                }
                e.due("those that MAY GO", made[i].may(), free);
                made[i].seed(seed);
                e.due("DRAWN of " + sheds[i].length + " with z " + seed, made[i].draw(),
                    sheds[i][lotOf(behind(seed), sheds[i].length)]);
                e.due("z", made[i].seed(1), behind(seed));
            }
        }

        e.says(0, "A RUN: DRAWN again and again, till none MAY GO.");
        for (int seed : SEEDS) {
            UnlikeNeighbours x = Edge.all(LIVING, 5);
            x.seed(seed);
            Run run = new Run(5, 2, 0, seed);
            run.tillNone();
            int count = x.often(1);
            e.due("a RUN with z " + seed, count, run.inside == 0 ? 1 : 0);
            for (int k = 0; k < run.size; k++) {
                e.due("DRAWN " + k, x.draw(), run.order[k]);
            }
            e.due("then none", x.draw(), NONE);
            e.due("z", x.seed(0), run.z);
        }
    }

    private UnlikeNeighbours oneMayGo() {
        return e.gone(Edge.all(LIVING, 4), 1);
    }

    /** Goods of one KIND (living ones or goats), as Edge.all() makes them, drawn by GAP 1. */
    private static final class Run {
        final int kind, goods;
        int inside, last, z, size;
        final int[] order = new int[9];

        Run(int goods, int kind, int outside, int z) {
            this.goods = goods;
            this.kind = kind;
            this.z = z;
            inside = (1 << goods) - 1 & ~outside;
            last = -9;
        }

        int[] free() {
            int[] free = new int[3];
            int count = 0;
            for (int g = 0; g < goods; g++) {
                boolean isTop = (inside >> g & 1) == 1;
                for (int h = g + 3; h < goods; h += 3) {
                    isTop &= (inside >> h & 1) == 0;
                }
                if (isTop && (kind == GOAT || Math.abs(g - last) > 1)) {
                    free[count++] = g;
                }
            }
            return java.util.Arrays.copyOf(free, count);
        }

        void tillNone() {
            for (int[] free = free(); free.length > 0; free = free()) {
                z = behind(z);
                last = free[lotOf(z, free.length)];
                inside &= ~(1 << last);
                order[size++] = last;
            }
        }
    }

    // ---- rows

    private void rowsAre(String when, UnlikeNeighbours x, int... cells) {
        e.due("how many ROWS " + when, x.many(4), cells.length / 3);
        for (int i = 0; i < cells.length; i++) {
            e.due("ROW " + i / 3 + " what " + i % 3 + " " + when, x.row(i / 3, i % 3), cells[i]);
        }
        for (int what = 0; what < 3; what++) {
            e.due("no such ROW " + when, x.row(cells.length / 3, what), -9);
        }
    }

    private void termsOfRows() {
        e.says(0, "ROWS of the FIRST WAY, one for each that goes: (GOOD, how many are IN behind it, FEE).");
        UnlikeNeighbours x = Edge.shed(LIVING, 0, 0, 10, LIVING, 1, 0, 20, LIVING, 2, 0, 30, ROYAL, 0, 0, 999);
        x.prove();
        rowsAre("of four", x, 1, 3, 20, 3, 2, 2098, 0, 1, 10, 2, 0, 30);
        e.gone(x, 1, 3);
        x.prove();
        rowsAre("of those that are IN", x, 0, 1, 10, 2, 0, 30);
        e.gone(x, 0, 2);
        x.prove();
        rowsAre("of none IN", x);
        UnlikeNeighbours one = Edge.shed(GOAT, 0, 9, 1);
        one.prove();
        rowsAre("of one", one, 0, 0, 0);

        e.says(0, "THE READER takes ROWS as such, from how it is now: right is one that tells a good that MAY"
            + " GO behind those of the ROWS ahead, how many are IN then, its FEE; behind the last one none"
            + " MAY GO (else that ROW isn't right).");
        UnlikeNeighbours y = Edge.all(LIVING, 4);
        y.prove();
        e.due("all right", y.judge(), 0);
        for (int k = 0; k < 4; k++) {
            for (int what = 0; what < 3; what++) {
                int was = y.row(k, what);
                for (int v : new int[] {was - 1, was + 1, was + 32, -1, Integer.MIN_VALUE}) {
                    y.alterRow(k, what, v);
                    // 2 may go as well, but then 3 may not.
                    boolean isNextWrong = what == 0 && k == 0 && v == 2;
                    e.due("ROW " + k + " what " + what + " is " + v, y.judge(), isNextWrong ? 2 : k + 1);
                }
                y.alterRow(k, what, was);
            }
        }
        e.due("right again", y.judge(), 0);
        y.alterRow(2, 1, 7);
        y.alterRow(3, 2, 7);
        e.due("the first of two", y.judge(), 3);
        y.alterRow(1, 0, 7);
        e.due("the first of three", y.judge(), 2);
        behindTheLast();
    }

    private void behindTheLast() {
        UnlikeNeighbours x = Edge.shed(LIVING, 0, 0, 10);
        x.prove();
        e.due("none is IN behind it", x.judge(), 0);
        x.good(LIVING, 1, 0, 10);
        e.due("one more is IN than it tells", x.judge(), 1);
        x.alterRow(0, 1, 1);
        e.due("one is IN behind it, and may not go", x.judge(), 0);
        x.remake(1, GOAT);
        e.due("one MAY GO behind it", x.judge(), 1);
        x.remake(1, LIVING);
        e.due("none again", x.judge(), 0);
        // Another order than the FIRST WAY is as right.
        UnlikeNeighbours two = Edge.all(GOAT, 2);
        two.prove();
        two.alterRow(0, 0, 1);
        two.alterRow(0, 2, 9);
        e.due("one and the same twice", two.judge(), 2);
        two.alterRow(1, 0, 0);
        e.due("its FEE", two.judge(), 2);
        two.alterRow(1, 2, 10);
        e.due("the other order", two.judge(), 0);
    }

    private void report29AndForget30() {
        e.says(29, "A REPORT: its number.");
        UnlikeNeighbours x = Edge.all(LIVING, 9);
        e.due("of the first good", x.report(0, 1), 0);
        e.due("of the last good", x.report(8, 0), 1);
        e.due("the same once more", x.report(8, 0), 2);
        e.gone(x, 8);
        e.due("of one OUT", x.report(8, 0), 3);
        places("by these", x, 256 + 512);

        e.says(29, "BAD; FULL.");
        e.outside("good", g -> x.report(g, 0), 0, 8, BAD);
        e.outside("could", could -> x.report(0, could), 0, 1, BAD);
        e.due("none came", x.many(3), 4);
        e.due("of no goods", new UnlikeNeighbours().report(0, 0), BAD);
        e.due("the fifth", x.report(1, 1), 4);
        e.due("the sixth", x.report(1, 1), 5);
        e.due("full", x.report(1, 1), FULL);
        e.outside("good ahead of FULL", g -> x.report(g, 0), 0, 8, BAD);
        e.outside("could ahead of FULL", could -> x.report(0, could), 0, 1, BAD);
        e.due("six", x.many(3), 6);

        e.says(30, "There are no REPORTS: how many there were.");
        e.due("six", x.forget(), 6);
        e.due("none", x.many(3), 0);
        e.due("none", x.forget(), 0);
        places("without REPORTS", x, setOf(0, 9));
        e.due("numbers begin anew", x.report(0, 0), 0);
        e.due("one", x.forget(), 1);
        e.due("of no goods", new UnlikeNeighbours().forget(), 0);
    }

    private void span31AndLiar32() {
        e.says(31, "PLACES that FIT: what = 0 how many, 1 the least, 2 the greatest.");
        UnlikeNeighbours x = Edge.all(LIVING, 9);
        e.inTurn("all: what", x::span, 10, 0, 9, BAD);
        x.report(0, 0);
        e.inTurn("not behind the first: what", x::span, 2, 0, 1);
        x.forget();
        x.report(8, 0);
        e.inTurn("not behind the last: what", x::span, 2, 8, 9);
        x.report(7, 1);
        e.inTurn("behind all: what", x::span, 1, 9, 9);
        x.forget();
        x.report(0, 1);
        x.report(8, 1);
        e.inTurn("between: what", x::span, 6, 2, 7);
        UnlikeNeighbours ahead = Edge.all(LIVING, 9);
        ahead.report(0, 0);
        ahead.report(1, 1);
        e.inTurn("ahead of all: what", ahead::span, 1, 0, 0);
        e.inTurn("with no goods: what", new UnlikeNeighbours()::span, 1, 0, 0);

        e.says(31, "BAD; NONE (of 1, 2): there are none.");
        e.outside("what", x::span, 0, 2, BAD);
        x.report(0, 0);
        e.inTurn("none FITS: what", x::span, 0, NONE, NONE, BAD);
        e.outside("what, if none FITS", x::span, 0, 2, BAD);

        e.says(32, "LIAR. NONE: some FIT; or there is no such REPORT.");
        e.due("of three, where two are unlike", x.liar(), 0);
        UnlikeNeighbours y = Edge.all(LIVING, 9);
        e.due("no REPORTS", y.liar(), NONE);
        e.due("no goods", new UnlikeNeighbours().liar(), NONE);
        y.report(4, 1);
        e.due("some FIT", y.liar(), NONE);
        y.report(4, 0);
        e.due("the least of two", y.liar(), 0);
        y.report(4, 0);
        e.due("one against two", y.liar(), 0);
        y.report(4, 1);
        e.due("two against two", y.liar(), NONE);
        y.forget();
        y.report(0, 0);
        y.report(4, 0);
        y.report(8, 0);
        e.due("all three apart", y.liar(), NONE);
        y.let(0, 3);
        e.due("by GAP 3 the first or the last would do", y.liar(), 0);
        y.remake(4, GOAT);
        e.due("two lie", y.liar(), NONE);
        y.remake(0, GOAT);
        y.remake(8, GOAT);
        e.due("three lie", y.liar(), NONE);
    }

    private void seed33AndDraw34() {
        e.says(33, "z becomes v: what it was.");
        UnlikeNeighbours x = Edge.all(GOAT, 1);
        int was = 1;
        for (int v : SEEDS) {
            e.due("seed", x.seed(v), was);
            was = v;
        }
        e.due("also below 0, which is no refusal", x.seed(-1), was);
        e.due("so it is", x.seed(-4), -1);
        e.due("so it is", x.seed(1), -4);

        e.says(34, "DRAWN: which goes.");
        UnlikeNeighbours y = Edge.all(GOAT, 9);
        Run run = new Run(9, GOAT, 0, 1);
        run.tillNone();
        for (int k = 0; k < 9; k++) {
            e.due("draw", y.draw(), run.order[k]);
            e.due("it is OUT", y.goodOf(run.order[k], 5) * 10 + y.goodOf(run.order[k], 6), k);
        }
        e.due("all are OUT", y.many(2), 9);
        e.due("z", y.seed(5), run.z);

        e.says(34, "NONE: none MAY GO (z stays, too).");
        e.due("none IN", y.draw(), NONE);
        e.due("z", y.seed(6), 5);
        UnlikeNeighbours locked = e.gone(Edge.all(LIVING, 2), 0);
        e.due("locked in", locked.draw(), NONE);
        e.due("z", locked.seed(6), 1);
        e.due("one is OUT", locked.many(2), 1);
        UnlikeNeighbours none = new UnlikeNeighbours();
        e.due("no goods", none.draw(), NONE);
        e.due("z", none.seed(6), 1);
    }

    private void often35() {
        e.says(35, "How many of n (1 to 60) RUNS, each from how it is now (z goes on from one to the next),"
            + " let all go (all is as it was in the end, z, too).");
        for (int seed : new int[] {1, -77}) {
            int all = 0;
            int z = seed;
            UnlikeNeighbours x = Edge.all(LIVING, 6);
            x.seed(seed);
            for (int n = 1; n <= 60; n++) {
                Run run = new Run(6, LIVING, 0, z);
                run.tillNone();
                z = run.z;
                all += run.inside == 0 ? 1 : 0;
                e.due("often(" + n + ")", x.often(n), all);
            }
            e.due("some, not all, let all go", all > 0 && all < 60 ? 1 : 0, 1);
            e.due("z", x.seed(1), seed);
            e.due("none went", x.many(2) * 1000 + x.may(), 56);
        }
        for (int first : new int[] {3, 4, 5}) {
            UnlikeNeighbours x = e.gone(Edge.all(LIVING, 6), first);
            int all = 0;
            int z = 1;
            for (int n = 1; n <= 60; n++) {
                Run run = new Run(6, LIVING, 1 << first, z);
                run.last = first;
                run.tillNone();
                z = run.z;
                all += run.inside == 0 ? 1 : 0;
                e.due("often(" + n + ") behind " + first, x.often(n), all);
            }
        }
        UnlikeNeighbours y = Edge.all(LIVING, 6);
        e.gone(y, 4);
        int may = y.may();
        int often = y.often(60);
        e.due("THE LINE stays", y.many(2) * 10 + y.line(0), 14);
        e.due("those that MAY GO", y.may(), may);
        e.due("the same again", y.often(60), often);
        e.due("all goats go", Edge.all(GOAT, 9).often(60), 60);
        e.due("all goats go once", Edge.all(GOAT, 9).often(1), 1);
        e.due("none goes", Edge.all(LIVING, 2).often(60), 0);
        UnlikeNeighbours locked = e.gone(Edge.all(LIVING, 2), 0);
        e.due("locked in", locked.often(60), 0);
        e.due("none IN: all have gone", e.gone(Edge.all(GOAT, 1), 0).often(60), 60);
        e.due("no goods", new UnlikeNeighbours().often(1), 1);

        e.says(35, "BAD.");
        e.outside("n", y::often, 1, 60, BAD);
        e.outside("n with no goods", new UnlikeNeighbours()::often, 1, 60, BAD);
        e.due("z", y.seed(1), 1);
    }

    private void prove36AndRow37() {
        e.says(36, "ROWS of the FIRST WAY: how many.");
        UnlikeNeighbours x = Edge.all(LIVING, 9);
        e.due("nine", x.prove(), 9);
        rowsAre("of nine", x, 6, 8, 10, 3, 7, 10, 0, 6, 10, 7, 5, 10, 4, 4, 10, 1, 3, 10, 8, 2, 10, 5, 1, 10,
            2, 0, 10);
        e.gone(x, 6);
        rowsAre("stay while goods go", x, 6, 8, 10, 3, 7, 10, 0, 6, 10, 7, 5, 10, 4, 4, 10, 1, 3, 10, 8, 2, 10,
            5, 1, 10, 2, 0, 10);
        e.due("eight in place of nine", x.prove(), 8);
        e.due("the first of them", x.row(0, 0) * 10 + x.row(0, 1), 37);
        e.due("none in place of eight", e.gone(x, 3, 0, 7, 4, 1, 8, 5, 2).prove(), 0);
        e.due("no ROW", x.row(0, 0), -9);
        e.due("with no goods", new UnlikeNeighbours().prove(), 0);
        e.due("one", Edge.all(GOAT, 1).prove(), 1);

        e.says(36, "NONE: there is no WAY (ROWS stay).");
        UnlikeNeighbours y = Edge.all(LIVING, 4);
        e.due("four", y.prove(), 4);
        y.let(0, 2);
        e.due("none by GAP 2", y.prove(), NONE);
        rowsAre("stay", y, 1, 3, 10, 3, 2, 10, 0, 1, 10, 2, 0, 10);
        UnlikeNeighbours two = Edge.all(LIVING, 2);
        e.due("two beside one another", two.prove(), NONE);
        rowsAre("of none", two);
        e.gone(two, 0);
        e.due("locked in", two.prove(), NONE);
        rowsAre("of none", two);

        e.says(37, "Of ROW k: what = 0 GOOD, 1 how many are IN behind it, 2 FEE.");
        UnlikeNeighbours z = Edge.shed(GOAT, 0, 0, 999, GOAT, 1, 9, 1);
        z.prove();
        rowsAre("of two", z, 0, 1, 999, 1, 0, 0);
        z.change(0, 3, 5);
        e.due("as it was told", z.row(0, 2), 999);

        e.says(37, "-9: there is none such, another what.");
        for (int what = 0; what < 3; what++) {
            int asked = what;
            e.outside("ROW of two", k -> z.row(k, asked), 0, 1, -9);
            e.outside("ROW of nine", k -> nineRows().row(k, asked), 0, 8, -9);
            e.outside("ROW of none", k -> two.row(k, asked), 0, -1, -9);
        }
        e.outside("what", what -> z.row(0, what), 0, 2, -9);
        e.outside("what of the last", what -> z.row(1, what), 0, 2, -9);
    }

    private static UnlikeNeighbours nineRows() {
        UnlikeNeighbours x = Edge.all(GOAT, 9);
        x.prove();
        return x;
    }

    private void alterRow38AndJudge39() {
        e.says(38, "It becomes v: what it was.");
        UnlikeNeighbours x = Edge.all(GOAT, 2);
        x.prove();
        int[] cells = {0, 1, 10, 1, 0, 9};
        for (int i = 0; i < 6; i++) {
            for (int v : SEEDS) {
                e.due("alterRow", x.alterRow(i / 3, i % 3, v), cells[i]);
                cells[i] = v;
            }
        }
        rowsAre("altered", x, cells);
        x.prove();
        rowsAre("anew", x, 0, 1, 10, 1, 0, 9);

        e.says(38, "-9 likewise.");
        for (int what = 0; what < 3; what++) {
            int asked = what;
            e.outside("ROW", k -> x.alterRow(k, asked, 5), 0, 1, -9);
            e.outside("ROW of none", k -> new UnlikeNeighbours().alterRow(k, asked, 5), 0, -1, -9);
        }
        e.outside("what", what -> x.alterRow(0, what, 5), 0, 2, -9);
        e.outside("what of the last", what -> x.alterRow(1, what, 5), 0, 2, -9);
        rowsAre("as they were", x, 0, 1, 10, 1, 0, 9);

        e.says(39, "THE READER takes ROWS as such: 0 all is right; else the first ROW that isn't, and 1 more.");
        e.due("two right ones", x.judge(), 0);
        e.due("nine right ones", nineRows().judge(), 0);
        UnlikeNeighbours nine = nineRows();
        nine.alterRow(8, 1, 1);
        e.due("the last of nine", nine.judge(), 9);
        nine.alterRow(0, 2, 11);
        e.due("the first of nine", nine.judge(), 1);
        e.due("no ROWS, no goods", new UnlikeNeighbours().judge(), 0);
        e.due("no ROWS that could be wrong", Edge.all(GOAT, 2).judge(), 0);
        e.due("no ROWS, none IN", e.gone(Edge.all(GOAT, 1), 0).judge(), 0);
        x.change(1, 3, 11);
        e.due("another FEE now", x.judge(), 2);
        x.change(1, 3, 10);
        x.let(1, 1);
        e.due("another DAY now", x.judge(), 1);
        x.let(1, 0);
        e.gone(x, 0);
        e.due("it is OUT now", x.judge(), 1);
        x.prove();
        e.due("behind THE LINE", x.judge(), 0);
        x.come();
        e.due("how many are IN", x.judge(), 1);
        UnlikeNeighbours y = e.gone(Edge.shed(GOAT, 0, 0, 10, GOAT, 1, 0, 10), 1);
        y.prove();
        e.due("behind a goat", y.judge(), 0);
        y.remake(0, LIVING);
        y.remake(1, LIVING);
        e.due("beside the last one of THE LINE", y.judge(), 1);
    }
}
