import java.io.IOException;

/** The Terms on what is refused and what is asked, promises 50 and 51: what changes, what stays. */
public final class EdgesOfRefusalsTest {
    private static final int BAD = Edge.BAD, FULL = Edge.FULL, NONE = Edge.NONE, STATE = Edge.STATE;
    private static final int TWIN = Edge.TWIN, LIVING = Edge.LIVING, GOAT = Edge.GOAT,
        SEALED = Edge.SEALED, ROYAL = Edge.ROYAL;

    private final Edge e;

    private EdgesOfRefusalsTest(String[] args) throws IOException {
        e = new Edge("EdgesOfRefusalsTest", args);
    }

    public static void main(String[] args) throws IOException {
        EdgesOfRefusalsTest test = new EdgesOfRefusalsTest(args);
        test.refusedChangesNothing();
        test.usedUpTape();
        test.theFirstNamed();
        test.theirNumbers();
        test.setsAndQuotients();
        test.askedChangesNothing();
        test.keep50();
        test.again51();
        test.e.end();
    }

    private interface Call {
        int on(UnlikeNeighbours x);
    }

    // ---- sheds with something of everything

    private static UnlikeNeighbours rich() {
        UnlikeNeighbours x = Edge.shed(TWIN, 0, 5, 41, LIVING, 1, 2, 20);
        Edge.told(x, "good more 3;");
        x.report(1, 1);
        x.go(1);
        x.seed(99);
        x.keep();
        x.come();
        x.good(GOAT, 2, 3, 30);
        x.good(SEALED, 0, 4, 40);
        x.good(ROYAL, 1, 5, 50);
        x.good(LIVING, 2, 6, 60);
        x.let(1, 3);
        Edge.told(x, "living if number>1 and not day=4 more 7; good if cloth<5 less 2;");
        x.report(2, 1);
        x.report(3, 0);
        x.seed(-12345);
        x.prove();
        x.go(5);
        x.go(3);
        Edge.feed(x, "goat free;");
        Edge.sheet(x, 0, 0, 4, 2, 9, 1, 0);
        Edge.sheet(x, 1, 2, 70000, -5);
        Edge.sheet(x, 2, 4, 0, 1);
        x.shelf(0, 0, 2);
        x.shelf(1, 1, 1);
        x.shelf(2, 0, 4);
        x.act(0, 3, 10);
        return x;
    }

    /** All that can be full is full, and none MAY GO. */
    private static UnlikeNeighbours full() {
        UnlikeNeighbours x = Edge.all(LIVING, 9);
        x.let(0, 3);
        x.go(7);
        for (int k = 0; k < 6; k++) {
            x.report(8 * (k % 2), 0);
        }
        Edge.told(x, "good more 1;".repeat(8));
        Edge.feed(x, " ".repeat(190) + "good free;");
        for (int i = 0; i < 4; i++) {
            x.sheet(i, i, 40);
            x.shelf(i, 1, i);
        }
        x.keep();
        return x;
    }

    private static UnlikeNeighbours empty() {
        return new UnlikeNeighbours();
    }

    private static UnlikeNeighbours made(int which) {
        return which == 0 ? rich() : which == 1 ? full() : empty();
    }

    // ---- all that can be asked of a shed

    private static void row(StringBuilder told, String name, int count, java.util.function.IntUnaryOperator ask) {
        told.append(' ').append(name);
        for (int i = 0; i < count; i++) {
            told.append(i == 0 ? "=" : ",").append(ask.applyAsInt(i));
        }
    }

    /** What keep() keeps, as it can be asked for. */
    private static String shedOf(UnlikeNeighbours x) {
        StringBuilder told = new StringBuilder();
        int goods = x.many(0);
        for (int what = 0; what < 7; what++) {
            int asked = what;
            row(told, "goodOf" + what, goods, g -> x.goodOf(g, asked));
        }
        row(told, "mates", goods, x::mates);
        row(told, "line", x.many(2), x::line);
        row(told, "many", 4, x::many);
        row(told, "span", 3, x::span);
        row(told, "liar", 1, i -> x.liar());
        row(told, "may", 1, i -> x.may());
        row(told, "tops", 1, i -> x.tops());
        row(told, "paid", 1, i -> x.paid());
        row(told, "ways", 1, i -> x.ways());
        row(told, "cheapest", 1, i -> x.cheapest());
        int gap = x.let(0, 1);
        int day = x.let(1, 0);
        int z = x.seed(0);
        x.let(0, gap);
        x.let(1, day);
        x.seed(z);
        told.append(" gap=").append(gap).append(" day=").append(day).append(" z=").append(z);
        return told.toString();
    }

    /** What keep() doesn't keep, as it can be asked for. */
    private static String restOf(UnlikeNeighbours x) {
        StringBuilder told = new StringBuilder();
        row(told, "many4", 3, what -> x.many(4 + what));
        int rows = x.many(4);
        for (int k = 0; k < rows; k++) {
            int asked = k;
            row(told, "row" + k, 3, what -> x.row(asked, what));
        }
        for (int sheet = 0; sheet < 4; sheet++) {
            int asked = sheet;
            for (int sort = 0; sort < 5; sort++) {
                int its = sort;
                int first = x.item(sheet, sort, 0);
                told.append(" sheet").append(sheet).append(" as ").append(sort).append('=').append(first);
                if (first != -13 && first != -11) {
                    row(told, "then", 6, i -> x.item(asked, its, 1 + i));
                }
            }
            row(told, "shelf" + sheet, 2, as -> x.taken(asked, as));
            row(told, "shelf" + sheet, 5, as -> x.taken(asked, 10 + as));
        }
        row(told, "trace", x.many(6), x::trace);
        return told.toString();
    }

    /** All of it; what THE TAPE holds and what is kept come out at last, and only once. */
    private static String allOf(UnlikeNeighbours x) {
        String told = shedOf(x) + restOf(x);
        int rules = x.rules();
        told += " rules=" + rules + shedOf(x);
        return told + " again=" + x.again() + shedOf(x);
    }

    private final String[] asMade = {allOf(rich()), allOf(full()), allOf(empty())};

    /** A call on a shed (0 rich, 1 full, 2 empty) that leaves all as it was. */
    private void leaves(int which, String call, Call made, int want) {
        UnlikeNeighbours x = made(which);
        e.due(call + " on shed " + which, made.on(x), want);
        e.due(call + " on shed " + which, allOf(x), asMade[which]);
    }

    private void refused(int which, String call, Call made, int want) {
        leaves(which, call, made, want);
    }

    private void refusedChangesNothing() {
        e.says(0, "Answers below 0, where not told otherwise, are refusals; such a call changes nothing");
        for (int which = 0; which < 3; which++) {
            refused(which, "good(0, ..)", x -> x.good(0, 0, 0, 1), BAD);
            refused(which, "good(.., 3, ..)", x -> x.good(1, 3, 0, 1), BAD);
            refused(which, "good(.., 10, ..)", x -> x.good(1, 0, 10, 1), BAD);
            refused(which, "good(.., 1000)", x -> x.good(1, 0, 0, 1000), BAD);
            refused(which, "goodOf(9, 0)", x -> x.goodOf(9, 0), BAD);
            refused(which, "change(9, 2, 1)", x -> x.change(9, 2, 1), BAD);
            refused(which, "change(0, 2, 10)", x -> x.change(0, 2, 10), BAD);
            refused(which, "change(0, 3, 1000)", x -> x.change(0, 3, 1000), BAD);
            refused(which, "change(0, 3, 0)", x -> x.change(0, 3, 0), BAD);
            refused(which, "change(0, 1, 1)", x -> x.change(0, 1, 1), BAD);
            refused(which, "remake(0, 0)", x -> x.remake(0, 0), BAD);
            refused(which, "remake(0, 6)", x -> x.remake(0, 6), BAD);
            refused(which, "remake(9, 1)", x -> x.remake(9, 1), BAD);
            refused(which, "let(0, 4)", x -> x.let(0, 4), BAD);
            refused(which, "let(0, 0)", x -> x.let(0, 0), BAD);
            refused(which, "let(1, 10)", x -> x.let(1, 10), BAD);
            refused(which, "let(2, 1)", x -> x.let(2, 1), BAD);
            refused(which, "feed(.., 0)", x -> x.feed('x', 0), BAD);
            refused(which, "feed(.., 9)", x -> x.feed('x', 9), BAD);
            refused(which, "beside(0, 0)", x -> x.beside(0, 0), BAD);
            refused(which, "mates(9)", x -> x.mates(9), BAD);
            refused(which, "go(9)", x -> x.go(9), BAD);
            refused(which, "line(9)", x -> x.line(9), NONE);
            refused(which, "way(9)", x -> x.way(9), BAD);
            refused(which, "far(9)", x -> x.far(9), BAD);
            refused(which, "cheap(9)", x -> x.cheap(9), BAD);
            refused(which, "report(9, 0)", x -> x.report(9, 0), BAD);
            refused(which, "report(0, 2)", x -> x.report(0, 2), BAD);
            refused(which, "span(3)", x -> x.span(3), BAD);
            refused(which, "often(0)", x -> x.often(0), BAD);
            refused(which, "often(61)", x -> x.often(61), BAD);
            refused(which, "row(9, 0)", x -> x.row(9, 0), -9);
            refused(which, "alterRow(9, 0, 5)", x -> x.alterRow(9, 0, 5), -9);
            refused(which, "alterRow(0, 3, 5)", x -> x.alterRow(0, 3, 5), -9);
            refused(which, "sheet(4, 0, 1)", x -> x.sheet(4, 0, 1), BAD);
            refused(which, "sheet(0, 5, 1)", x -> x.sheet(0, 5, 1), BAD);
            refused(which, "sheet(0, 0, 41)", x -> x.sheet(0, 0, 41), BAD);
            refused(which, "sheet(0, 0, -1)", x -> x.sheet(0, 0, -1), -14);
            refused(which, "write(4, 0, 1)", x -> x.write(4, 0, 1), BAD);
            refused(which, "item(0, 5, 0)", x -> x.item(0, 5, 0), BAD);
            refused(which, "goes(4, 0, 1)", x -> x.goes(4, 0, 1), BAD);
            refused(which, "goes(0, 0, 21)", x -> x.goes(0, 0, 21), BAD);
            refused(which, "goats(0, 0, 10)", x -> x.goats(0, 0, 10), BAD);
            refused(which, "shelf(4, 2, 0)", x -> x.shelf(4, 2, 0), BAD);
            refused(which, "shelf(0, 3, 0)", x -> x.shelf(0, 3, 0), BAD);
            refused(which, "shelf(0, 0, 9)", x -> x.shelf(0, 0, 9), BAD);
            refused(which, "shelf(0, 1, 4)", x -> x.shelf(0, 1, 4), BAD);
            refused(which, "taken(0, 6)", x -> x.taken(0, 6), BAD);
            refused(which, "trace(30)", x -> x.trace(30), NONE);
            refused(which, "many(7)", x -> x.many(7), BAD);
        }
        refusedOfTheFull();
        refusedOfTheRich();
        refused(2, "come()", x -> x.come(), NONE);
        refused(2, "way(0)", x -> x.way(0), NONE);
        refused(2, "far(0)", x -> x.far(0), NONE);
        refused(2, "cheap(0)", x -> x.cheap(0), NONE);
        refused(2, "best()", x -> x.best(), NONE);
        refused(2, "goat()", x -> x.goat(), NONE);
        refused(2, "play()", x -> x.play(), NONE);
        refused(2, "draw()", x -> x.draw(), NONE);
        refused(2, "liar()", x -> x.liar(), NONE);
        refused(2, "again()", x -> x.again(), NONE);
        refused(2, "write(0, 0, 1)", x -> x.write(0, 0, 1), -11);
        refused(2, "item(0, 0, 0)", x -> x.item(0, 0, 0), -11);
        refused(2, "goes(0, 0, 1)", x -> x.goes(0, 0, 1), -11);
        refused(2, "goats(0, 0, 1)", x -> x.goats(0, 0, 1), -11);
        refused(2, "taken(0, 0)", x -> x.taken(0, 0), -11);
    }

    private void refusedOfTheFull() {
        refused(1, "good(..)", x -> x.good(1, 0, 0, 1), FULL);
        refused(1, "feed(.., 1)", x -> x.feed('x', 1), FULL);
        refused(1, "feed(.., 8)", x -> x.feed(0x6161616161616161L, 8), FULL);
        refused(1, "report(0, 0)", x -> x.report(0, 0), FULL);
        refused(1, "go(8)", x -> x.go(8), STATE);
        refused(1, "go(7)", x -> x.go(7), STATE);
        refused(1, "way(0)", x -> x.way(0), NONE);
        refused(1, "far(0)", x -> x.far(0), NONE);
        refused(1, "cheapest()", x -> x.cheapest(), NONE);
        refused(1, "cheap(0)", x -> x.cheap(0), NONE);
        refused(1, "best()", x -> x.best(), NONE);
        refused(1, "goat()", x -> x.goat(), NONE);
        refused(1, "play()", x -> x.play(), NONE);
        refused(1, "draw()", x -> x.draw(), NONE);
        refused(1, "prove()", x -> x.prove(), NONE);
        refused(1, "span(1)", x -> x.span(1), NONE);
        refused(1, "liar()", x -> x.liar(), NONE);
        refused(1, "write(0, 40, 1)", x -> x.write(0, 40, 1), -12);
        refused(1, "item(1, 1, 40)", x -> x.item(1, 1, 40), -12);
        refused(1, "item(1, 0, 0)", x -> x.item(1, 0, 0), -13);
        refused(1, "goes(1, 0, 1)", x -> x.goes(1, 0, 1), -13);
        refused(1, "goes(0, 40, 1)", x -> x.goes(0, 40, 1), -12);
        refused(1, "goats(1, 0, 1)", x -> x.goats(1, 0, 1), -13);
        refused(1, "goats(0, 40, 1)", x -> x.goats(0, 40, 1), -12);
        refused(1, "goats(0, 0, 1)", x -> x.goats(0, 0, 1), STATE);
        refused(1, "taken(0, 0)", x -> x.taken(0, 0), -13);
        refused(1, "taken(0, 11)", x -> x.taken(0, 11), -13);
    }

    private void refusedOfTheRich() {
        refused(0, "go(0), under another or OUT", x -> x.go(5), STATE);
        refused(0, "goats of one that is OUT", x -> x.goats(0, 0, 3), STATE);
        refused(0, "goats outside", x -> x.goats(0, 5, 1), -12);
        refused(0, "write outside", x -> x.write(1, 2, 5), -12);
        refused(0, "write in one missing", x -> x.write(3, 0, 5), -11);
        refused(0, "item of another sort", x -> x.item(2, 1, 0), -13);
        refused(0, "taken for another KIND", x -> x.taken(0, ROYAL), -13);
        refused(0, "taken of nothing", x -> x.taken(3, 0), -11);
        refused(0, "sheet of a size below 0", x -> x.sheet(1, 2, -1), -14);
    }

    private void usedUpTape() {
        e.says(0, "(but that THE TAPE is used up by rules())");
        for (String text : new String[] {"x", "good free; good", "good free; living more 5; goat if 1=1 more",
            "good if ((1=1) and not (gap=1 or day=2)) more 1000;", "good more 1;".repeat(8) + "good free;"}) {
            UnlikeNeighbours x = rich();
            x.rules();
            Edge.told(x, "living if number>1 and not day=4 more 7; good if cloth<5 less 2;");
            String before = shedOf(x) + restOf(x);
            Edge.feed(x, text);
            e.due("rules() of " + text, x.rules() <= -100 ? 1 : 0, 1);
            e.due("THE TAPE", x.many(5), 0);
            e.due("all but THE TAPE", shedOf(x) + restOf(x), before);
            e.due("nothing is left of it", Edge.told(x, "goat free;"), 1);
            x.let(1, 0);
            e.due("FEES by this one alone", x.goodOf(2, 4) * 100 + x.goodOf(1, 4), 20);
        }
    }

    private void theFirstNamed() {
        e.says(0, "of several the first named:");
        UnlikeNeighbours x = full();
        e.due("good: BAD, FULL", x.good(0, 0, 0, 1), BAD);
        e.due("feed: BAD, FULL", x.feed('x', 9), BAD);
        e.due("report: BAD, FULL", x.report(9, 0), BAD);
        e.due("report: BAD, FULL", x.report(0, -1), BAD);
        e.due("go: BAD, STATE", x.go(9), BAD);
        e.due("way: BAD, NONE", x.way(9) + x.way(-1), 2 * BAD);
        e.due("far: BAD, NONE", x.far(9) + x.far(-1), 2 * BAD);
        e.due("cheap: BAD, NONE", x.cheap(9) + x.cheap(-1), 2 * BAD);
        e.due("span: BAD, NONE", x.span(3) + x.span(-1), 2 * BAD);
        e.due("sheet: BAD, -14", x.sheet(4, 0, -1) + x.sheet(0, 5, -1), 2 * BAD);
        e.due("write: BAD, -12", x.write(4, 40, 1), BAD);
        e.due("item: BAD, -12", x.item(4, 0, 40) + x.item(0, 5, 40), 2 * BAD);
        e.due("item: -13, -12", x.item(0, 1, 40), -13);
        e.due("goes: BAD, -13", x.goes(1, 0, 21), BAD);
        e.due("goes: -13, -12", x.goes(1, 40, 1), -13);
        e.due("goats: BAD, -13", x.goats(1, 0, 10), BAD);
        e.due("goats: -13, -12", x.goats(1, 40, 1), -13);
        e.due("goats: STATE of the first item, -12 of the next", x.goats(0, 39, 2), STATE);
        e.due("goats: -12 of the first item", x.goats(0, 40, 2), -12);
        e.due("shelf: BAD for all", x.shelf(4, 3, 9), BAD);
        e.due("taken: BAD, -13", x.taken(0, 6) + x.taken(4, 0), 2 * BAD);
        x.sheet(0, -1, 0);
        x.shelf(0, 2, 0);
        e.due("taken: BAD, -11", x.taken(0, 6), BAD);
        e.due("write: BAD, -11, -12", x.write(-1, 40, 1), BAD);
        e.due("write: -11, -12", x.write(0, 40, 1), -11);
        e.due("item: BAD, -11", x.item(0, 5, 0), BAD);
        e.due("item: -11, -12", x.item(0, 0, 40), -11);
        e.due("goes: BAD, -11", x.goes(0, 0, 21), BAD);
        e.due("goes: -11, -12", x.goes(0, 40, 1), -11);
        e.due("goats: BAD, -11", x.goats(0, 0, 10), BAD);
        e.due("goats: -11, -12", x.goats(0, 40, 1), -11);
    }

    private void theirNumbers() {
        e.says(0, "BAD (-1) there is no such thing, or a number is not as told; FULL (-2); NONE (-3); STATE (-4);");
        e.due("BAD", UnlikeNeighbours.BAD, -1);
        e.due("FULL", UnlikeNeighbours.FULL, -2);
        e.due("NONE", UnlikeNeighbours.NONE, -3);
        e.due("STATE", UnlikeNeighbours.STATE, -4);
        UnlikeNeighbours x = full();
        e.due("no such thing", x.go(9), -1);
        e.due("a number not as told", x.let(0, 4), -1);
        e.due("full", x.good(1, 0, 0, 1), -2);
        e.due("none", x.draw(), -3);
        e.due("state", x.go(8), -4);

        e.says(0, "and what the host refuses: -11 nothing where something is asked, -12 a place outside, -13 a"
            + " thing of another sort or kind, -14 a size below 0, -15 parted by 0.");
        UnlikeNeighbours y = rich();
        e.due("nothing on a SHEET", y.write(3, 0, 1), -11);
        e.due("nothing on a SHELF", y.taken(3, 0), -11);
        e.due("a place outside", y.write(0, 5, 1), -12);
        e.due("another sort", y.item(0, 1, 0), -13);
        e.due("another kind", y.taken(0, SEALED), -13);
        e.due("a size below 0", y.sheet(3, 0, -1), -14);
        y.change(4, 2, 4);
        e.due("parted by 0", y.act(2, 2, 9), -15);
    }

    private void setsAndQuotients() {
        e.says(0, "Sets are told by bits.");
        UnlikeNeighbours x = Edge.all(GOAT, 9);
        e.due("6, 7 and 8", x.tops(), 1 << 6 | 1 << 7 | 1 << 8);
        e.due("none", Edge.all(GOAT, 2).mates(0), 0);
        UnlikeNeighbours y = Edge.all(LIVING, 9);
        y.let(0, 3);
        e.due("0", y.mates(1) & 1, 1);
        e.due("all below 6", y.never(), 1 | 2 | 4 | 8 | 16 | 32);

        e.says(0, "Quotients are cut towards 0.");
        UnlikeNeighbours z = Edge.shed(TWIN, 0, 2, 999);
        e.due("half of 999", z.goodOf(0, 4), 499);
        z.shelf(0, 0, 0);
        e.due("7 by 2", z.act(0, 2, 7), 3);
        e.due("-7 by 2", z.act(0, 2, -7), -3);
        e.due("-1 by 2", z.act(0, 2, -1), 0);
    }

    private void askedChangesNothing() {
        e.says(0, "3 What is asked changes nothing, if not told.");
        for (int which = 0; which < 3; which++) {
            for (int i = 0; i <= 9; i++) {
                UnlikeNeighbours x = made(which);
                x.goodOf(i, i % 7);
                x.beside(i, 0);
                x.mates(i);
                x.line(i);
                x.way(i);
                x.far(i);
                x.cheap(i);
                x.span(i);
                x.row(i, i % 3);
                x.item(i % 4, i % 5, i);
                x.goats(i % 4, i, i);
                x.taken(i % 4, i);
                x.taken(i % 4, 10 + i % 5);
                x.trace(i);
                x.many(i);
                x.often(1 + 6 * i);
                e.due("of shed " + which, allOf(x), asMade[which]);
            }
            leaves(which, "may()", y -> y.may() * 0, 0);
            leaves(which, "tops()", y -> y.tops() * 0, 0);
            leaves(which, "paid()", y -> y.paid() * 0, 0);
            leaves(which, "ways()", y -> y.ways() * 0, 0);
            leaves(which, "way(0)", y -> y.way(0) * 0, 0);
            leaves(which, "longest()", y -> y.longest() * 0, 0);
            leaves(which, "far(0)", y -> y.far(0) * 0, 0);
            leaves(which, "cheapest()", y -> y.cheapest() * 0, 0);
            leaves(which, "cheap(0)", y -> y.cheap(0) * 0, 0);
            leaves(which, "never()", y -> y.never() * 0, 0);
            leaves(which, "best()", y -> y.best() * 0, 0);
            leaves(which, "goat()", y -> y.goat() * 0, 0);
            leaves(which, "gapFor()", y -> y.gapFor() * 0, 0);
            leaves(which, "game()", y -> y.game() * 0, 0);
            leaves(which, "play()", y -> y.play() * 0, 0);
            leaves(which, "liar()", y -> y.liar() * 0, 0);
            leaves(which, "often(60)", y -> y.often(60) * 0, 0);
            leaves(which, "judge()", y -> y.judge() * 0, 0);
            leaves(which, "goats(0, 0, 2)", y -> y.goats(0, 0, 2) * 0, 0);
        }
    }

    // ---- kept

    /** What changes something of what is kept, each another thing. */
    private static Call[] keptThings() {
        return new Call[] {x -> x.good(GOAT, 0, 9, 9), x -> x.change(0, 2, 9), x -> x.change(0, 3, 9),
            x -> x.change(1, 2, 5), x -> x.remake(0, ROYAL), x -> x.remake(1, GOAT), x -> x.let(0, 2),
            x -> x.let(1, 9), x -> Edge.told(x, "good free;"), x -> Edge.told(x, ""),
            x -> Edge.told(x, "good if number=0 and cloth<9 or day>1 more 50;living more 2;goat free;"),
            x -> x.go(2), x -> x.come() + x.go(2), x -> x.come(), x -> x.come() + x.come() + x.come(), x -> x.report(0, 0),
            x -> x.forget(), x -> x.seed(5), x -> x.draw()};
    }

    /** What changes something of what isn't kept, each another thing. */
    private static Call[] otherThings() {
        return new Call[] {x -> x.feed(0x20, 1), x -> x.alterRow(0, 1, 77), x -> x.sheet(0, 1, 3),
            x -> x.sheet(0, -1, 3), x -> x.write(0, 0, 77), x -> x.sheet(3, 4, 5), x -> x.shelf(0, 0, 1),
            x -> x.shelf(1, 2, 0), x -> x.shelf(3, 1, 0), x -> x.act(2, 1, 5), x -> x.act(3, 1, 5)};
    }

    private void keep50() {
        e.says(50, "All but THE TAPE, ROWS, SHEETS, SHELVES, THE TRACE is kept: 1.");
        Call[] kept = keptThings();
        for (int i = 0; i < kept.length; i++) {
            UnlikeNeighbours x = rich();
            String before = shedOf(x);
            e.due("keep", x.keep(), 1);
            e.due("keep changes nothing", shedOf(x), before);
            kept[i].on(x);
            e.due("thing " + i + " changes something", shedOf(x).equals(before) ? 1 : 0, 0);
            e.due("again", x.again(), 6);
            e.due("thing " + i + " is kept", shedOf(x), before);
        }
        Call[] others = otherThings();
        for (int i = 0; i < others.length; i++) {
            UnlikeNeighbours x = rich();
            String before = restOf(x);
            e.due("keep", x.keep(), 1);
            e.due("keep changes nothing", restOf(x), before);
            others[i].on(x);
            String then = restOf(x);
            e.due("other thing " + i + " changes something", then.equals(before) ? 1 : 0, 0);
            e.due("again", x.again(), 6);
            e.due("other thing " + i + " stays", restOf(x), then);
        }
        UnlikeNeighbours rows = Edge.all(GOAT, 2);
        rows.keep();
        rows.prove();
        rows.again();
        e.due("ROWS stay", rows.many(4), 2);
        e.due("keep of nothing", empty().keep(), 1);
        e.due("keep of all that is full", full().keep(), 1);
    }

    private void again51() {
        e.says(51, "It becomes what was kept latest (which stays): how many GOODS.");
        Call[] kept = keptThings();
        for (int i = 0; i < kept.length; i++) {
            // Kept behind one change, then changed by all: none of it goes into what is kept.
            UnlikeNeighbours x = rich();
            x.keep();
            kept[i].on(x);
            String latest = shedOf(x);
            int goods = x.many(0);
            x.keep();
            for (int round = 0; round < 2; round++) {
                for (Call other : kept) {
                    other.on(x);
                }
                e.due("again", x.again(), goods);
                e.due("as kept latest, round " + round, shedOf(x), latest);
            }
            e.due("again at once", x.again(), goods);
        }
        for (int goods = 0; goods <= 9; goods++) {
            UnlikeNeighbours x = Edge.all(GOAT, goods);
            x.keep();
            x.good(GOAT, 0, 0, 1);
            e.due("so many GOODS", x.again(), goods);
            e.due("so many GOODS", x.many(0), goods);
            for (int g = goods; g < 9; g++) {
                e.due("the next good", x.good(LIVING, 0, 0, 1), g);
            }
            e.due("room for nine", x.good(LIVING, 0, 0, 1), FULL);
            e.due("again", x.again(), goods);
        }
        reportsAgain();
        nineAgain();
        UnlikeNeighbours full = full();
        full.forget();
        full.come();
        full.report(1, 1);
        full.again();
        e.due("six REPORTS again", full.report(1, 1), FULL);
        e.due("one OUT again", full.line(0) * 10 + full.many(2), 71);
        UnlikeNeighbours first = Edge.all(GOAT, 2);
        first.keep();
        first.good(GOAT, 0, 0, 1);
        first.keep();
        first.good(GOAT, 0, 0, 1);
        e.due("the latest of two", first.again(), 3);
        e.due("not the one before", first.again(), 3);

        e.says(51, "NONE: nothing is kept.");
        e.due("nothing", empty().again(), NONE);
        UnlikeNeighbours x = Edge.all(GOAT, 3);
        e.gone(x, 1);
        e.due("nothing, with goods", x.again(), NONE);
        e.due("as it was", x.many(0) * 10 + x.many(2), 31);
        UnlikeNeighbours none = empty();
        none.keep();
        e.due("no GOODS are kept, which is something", none.again(), 0);
        none.good(GOAT, 0, 0, 1);
        e.due("none again", none.again() + none.many(0), 0);
    }

    /** Each REPORT comes again with its good and what it told of it. */
    private void reportsAgain() {
        for (int kept = 0; kept < 6; kept++) {
            UnlikeNeighbours x = Edge.all(LIVING, 9);
            for (int i = 0; i < 6; i++) {
                x.report(8, i == kept ? 0 : 1);
            }
            x.report(8, 1);
            x.keep();
            e.due("LIAR", x.liar(), kept);
            x.forget();
            for (int i = 0; i < 6; i++) {
                x.report(i, 1);
            }
            x.again();
            e.due("LIAR again", x.liar(), kept);
            x.forget();
            for (int i = 0; i < 6; i++) {
                x.report(i == kept ? 0 : 8, 0);
            }
            e.due("LIAR of others", x.liar(), kept);
            x.keep();
            x.forget();
            for (int i = 0; i < 6; i++) {
                x.report(4, 0);
            }
            x.again();
            e.due("LIAR of others again", x.liar(), kept);
        }
    }

    /** All of nine goods and of a LINE of nine come again. */
    private void nineAgain() {
        for (int out : new int[] {0, 1, 8, 9}) {
            UnlikeNeighbours x = Edge.all(GOAT, 9);
            int[] order = {8, 5, 2, 7, 4, 1, 6, 3, 0};
            for (int k = 0; k < out; k++) {
                x.go(order[k]);
            }
            String before = shedOf(x);
            x.keep();
            for (int k = 0; k < out; k++) {
                x.come();
            }
            for (int g = 8; g >= 0; g--) {
                x.go(g);
            }
            for (int g = 0; g < 9; g++) {
                x.remake(g, g % 2 == 0 ? ROYAL : TWIN);
                x.change(g, 2, 9 - g);
                x.change(g, 3, 900 + g);
            }
            e.due("nine as they were", x.again(), 9);
            e.due("with " + out + " OUT", shedOf(x), before);
        }
    }
}
