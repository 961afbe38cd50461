/**
 * A customs shed from which goods may go in any order, but never two one behind the other that
 * came beside one another. The words of ../shared/DOC.md stand in capitals in the comments.
 */
public final class UnlikeNeighbours {
    public static final int BAD = -1, FULL = -2, NONE = -3, STATE = -4;

    // What the host refuses.
    private static final int NOTHING = -11, OUTSIDE = -12, OTHER_SORT = -13, BELOW_0 = -14;
    private static final int PARTED_BY_0 = -15;
    private static final int NO_PLACE = -9;

    private static final int GOODS = 9, BAYS = 3, REPORTS = 6, MOST_GAP = 3, MOST_DAY = 9;
    private static final int MOST_CLOTH = 9, MOST_WORTH = 999, RUNS = 60;
    private static final int SHEETS = 4, ITEMS = 40, MISSING = -1, BYTES = 0, SHORTS = 1;
    private static final int BOOLEANS = 4, SHELVES = 4, GOES = 20, COLUMNS = 3, BODIES = 30;
    private static final int HOLDS_GOOD = 0, HOLDS_ROW = 1, HOLDS_NOTHING = 2, ROW_AS = 10;

    private static final int GOOD = 0, TWIN = 1, LIVING = 2, GOAT = 3, SEALED = 4, ROYAL = 5;
    private static final int[] KIND_ABOVE = {-1, GOOD, GOOD, LIVING, GOOD, SEALED};

    private static final int RULES = 8, MOST_CHANGE = 999, TAPE = 200, STEPS = 128, OPEN = 3;
    // A token is a NUMBER (as it is), a NAME (by its place in WORDS), another byte, or none.
    private static final int NAME = 10000, BYTE = 20000, END = 30000, NO_TOKEN = 30001;
    private static final String WORDS =
        "good twin living goat sealed royal if or and not more less free gap day cloth worth number ";
    private static final int IF = NAME + 6, OR = NAME + 7, AND = NAME + 8, NOT = NAME + 9;
    private static final int MORE = NAME + 10, LESS = NAME + 11, FREE = NAME + 12;
    private static final int THE_GAP = NAME + 13, THE_DAY = NAME + 14, THE_CLOTH = NAME + 15;
    private static final int THE_WORTH = NAME + 16, THE_NUMBER = NAME + 17;
    private static final int BELOW = BYTE + '<', SAME = BYTE + '=', ABOVE = BYTE + '>';

    // Which order is asked for.
    private static final int WAY = 0, LONGEST = 1, CHEAPEST = 2;

    private final Shed now = new Shed();
    private final Shed kept = new Shed();
    private boolean isKept;
    private final Reader reader = new Reader();
    private final Orders orders = new Orders(now);
    private final int[] rows = new int[GOODS * COLUMNS];
    private int rowCount;
    private final Sheet[] sheets = new Sheet[SHEETS];
    private final int[] held = new int[SHELVES];
    // A good's number, or a row's sort; and how many items the row has.
    private final int[] heldWhich = new int[SHELVES];
    private final int[] heldItems = new int[SHELVES];
    // The thing of the latest act(): it has THE TRACE.
    private Thing latest;

    public UnlikeNeighbours() {
        for (int i = 0; i < SHEETS; i++) {
            sheets[i] = new Sheet();
        }
        for (int i = 0; i < SHELVES; i++) {
            held[i] = HOLDS_NOTHING;
        }
    }

    // ---- goods

    public int good(int kind, int bay, int cloth, int worth) {
        if (!isBetween(kind, TWIN, ROYAL) || !isBetween(bay, 0, BAYS - 1)
            || !isBetween(cloth, 0, MOST_CLOTH) || !isBetween(worth, 1, MOST_WORTH)) {
            return BAD;
        }
        return now.add(kind, bay, cloth, worth);
    }

    public int goodOf(int g, int what) {
        if (!now.has(g)) {
            return BAD;
        }
        switch (what) {
            case 0: return now.kind[g];
            case 1: return now.bay[g];
            case 2: return now.cloth[g];
            case 3: return now.worth[g];
            case 4: return now.fee(g);
            case 5: return standing(g);
            case 6: return now.placeInLine(g);
            default: return BAD;
        }
    }

    private int standing(int g) {
        if (holds(now.mayGo(now.inside, now.last()), g)) {
            return 3;
        }
        if (holds(now.topsOf(now.inside), g)) {
            return 2;
        }
        return holds(now.inside, g) ? 1 : 0;
    }

    public int change(int g, int what, int v) {
        if (!now.has(g)) {
            return BAD;
        }
        if (what == 2 && isBetween(v, 0, MOST_CLOTH)) {
            int was = now.cloth[g];
            now.cloth[g] = v;
            now.renewMates();
            return was;
        }
        if (what == 3 && isBetween(v, 1, MOST_WORTH)) {
            int was = now.worth[g];
            now.worth[g] = v;
            return was;
        }
        return BAD;
    }

    public int remake(int g, int kind) {
        if (!now.has(g) || !isBetween(kind, TWIN, ROYAL)) {
            return BAD;
        }
        int was = now.kind[g];
        now.becomeKind(g, kind);
        return was;
    }

    public int let(int what, int v) {
        if (what == 0 && isBetween(v, 1, MOST_GAP)) {
            int was = now.gap;
            now.becomeGap(v);
            return was;
        }
        if (what == 1 && isBetween(v, 0, MOST_DAY)) {
            int was = now.day;
            now.day = v;
            return was;
        }
        return BAD;
    }

    // ---- the rules

    public int feed(long eight, int n) {
        return isBetween(n, 1, 8) ? reader.take(eight, n) : BAD;
    }

    public int rules() {
        return reader.readInto(now.rules);
    }

    // ---- who goes

    public int beside(int g, int h) {
        if (!now.has(g) || !now.has(h) || g == h) {
            return BAD;
        }
        return holds(now.mateSets[g], h) ? 1 : 0;
    }

    public int mates(int g) {
        return now.has(g) ? now.mateSets[g] : BAD;
    }

    public int may() {
        return now.mayGo(now.inside, now.last());
    }

    public int tops() {
        return now.topsOf(now.inside);
    }

    public int go(int g) {
        if (!now.has(g)) {
            return BAD;
        }
        if (!holds(may(), g)) {
            return STATE;
        }
        now.putOut(g);
        return now.fee(g);
    }

    public int come() {
        return now.bringBack();
    }

    public int line(int i) {
        return i >= 0 && i < now.out ? now.line[i] : NONE;
    }

    public int paid() {
        int cost = 0;
        for (int i = 0; i < now.out; i++) {
            cost += now.fee(now.line[i]) * (i + 1);
        }
        return cost;
    }

    // ---- orders

    public int ways() {
        return orders.study();
    }

    public int way(int i) {
        return inFirst(WAY, i);
    }

    public int longest() {
        orders.study();
        return orders.findFirst(LONGEST);
    }

    public int far(int i) {
        return inFirst(LONGEST, i);
    }

    public int cheapest() {
        orders.study();
        return orders.leastCost();
    }

    public int cheap(int i) {
        return inFirst(CHEAPEST, i);
    }

    private int inFirst(int which, int i) {
        if (!isBetween(i, 0, GOODS - 1)) {
            return BAD;
        }
        orders.study();
        return i < orders.findFirst(which) ? orders.first[i] : NONE;
    }

    public int never() {
        orders.study();
        return now.inside & ~orders.goers;
    }

    public int best() {
        orders.study();
        int free = may();
        int best = NONE;
        int most = -1;
        for (int g = 0; g < GOODS; g++) {
            if (holds(free, g)) {
                int behind = orders.waysBehind(without(now.inside, g), g);
                if (behind > most) {
                    most = behind;
                    best = g;
                }
            }
        }
        return best;
    }

    public int goat() {
        int best = NONE;
        int most = orders.study();
        for (int g = 0; g < now.goods; g++) {
            if (holds(now.inside, g)) {
                int was = now.kind[g];
                now.becomeKind(g, GOAT);
                int then = orders.study();
                now.becomeKind(g, was);
                if (then > most) {
                    most = then;
                    best = g;
                }
            }
        }
        return best;
    }

    public int gapFor() {
        int was = now.gap;
        int found = NONE;
        for (int gap = MOST_GAP; gap >= 1 && found == NONE; gap--) {
            now.becomeGap(gap);
            if (orders.study() > 0) {
                found = gap;
            }
        }
        now.becomeGap(was);
        return found;
    }

    public int game() {
        orders.study();
        return orders.wins(now.inside, now.last()) ? 1 : 0;
    }

    public int play() {
        orders.study();
        int free = may();
        for (int g = 0; g < GOODS; g++) {
            if (holds(free, g) && !orders.wins(without(now.inside, g), g)) {
                return g;
            }
        }
        return NONE;
    }

    // ---- a stolen crate, lots

    public int report(int g, int could) {
        if (!now.has(g) || !isBetween(could, 0, 1)) {
            return BAD;
        }
        return now.addReport(g, could);
    }

    public int forget() {
        int was = now.reports;
        now.reports = 0;
        return was;
    }

    public int span(int what) {
        if (!isBetween(what, 0, 2)) {
            return BAD;
        }
        int places = now.placesBut(-1);
        if (what == 0) {
            return Integer.bitCount(places);
        }
        int found = NONE;
        for (int place = 0; place <= GOODS; place++) {
            if (holds(places, place) && (what == 2 || found == NONE)) {
                found = place;
            }
        }
        return found;
    }

    public int liar() {
        if (now.placesBut(-1) != 0) {
            return NONE;
        }
        for (int r = 0; r < now.reports; r++) {
            if (now.placesBut(r) != 0) {
                return r;
            }
        }
        return NONE;
    }

    public int seed(int v) {
        int was = now.lot;
        now.lot = v;
        return was;
    }

    public int draw() {
        int free = may();
        if (free == 0) {
            return NONE;
        }
        now.lot = lotBehind(now.lot);
        int g = drawnOf(free, now.lot);
        now.putOut(g);
        return g;
    }

    public int often(int n) {
        if (!isBetween(n, 1, RUNS)) {
            return BAD;
        }
        int all = 0;
        int lot = now.lot;
        for (int run = 0; run < n; run++) {
            int inside = now.inside;
            int last = now.last();
            int free = now.mayGo(inside, last);
            for (int k = 0; k < GOODS && free != 0; k++) {
                lot = lotBehind(lot);
                last = drawnOf(free, lot);
                inside = without(inside, last);
                free = now.mayGo(inside, last);
            }
            if (inside == 0) {
                all++;
            }
        }
        return all;
    }

    private static int lotBehind(int lot) {
        return lot * 1103515245 + 12345;
    }

    private static int drawnOf(int free, int lot) {
        int count = Integer.bitCount(free);
        int skip = count == 0 ? 0 : (lot >>> 16) % count;
        for (int g = 0; g < GOODS; g++) {
            if (holds(free, g)) {
                if (skip == 0) {
                    return g;
                }
                skip--;
            }
        }
        return NONE;
    }

    // ---- rows

    public int prove() {
        if (orders.study() == 0) {
            return NONE;
        }
        rowCount = orders.findFirst(WAY);
        int inside = Integer.bitCount(now.inside);
        for (int k = 0; k < rowCount; k++) {
            int g = orders.first[k];
            rows[k * COLUMNS] = g;
            rows[k * COLUMNS + 1] = inside - k - 1;
            rows[k * COLUMNS + 2] = now.fee(g);
        }
        return rowCount;
    }

    public int row(int k, int what) {
        return isCell(k, what) ? rows[k * COLUMNS + what] : NO_PLACE;
    }

    public int alterRow(int k, int what, int v) {
        if (!isCell(k, what)) {
            return NO_PLACE;
        }
        int was = rows[k * COLUMNS + what];
        rows[k * COLUMNS + what] = v;
        return was;
    }

    private boolean isCell(int k, int what) {
        return k >= 0 && k < rowCount && isBetween(what, 0, COLUMNS - 1);
    }

    public int judge() {
        int inside = now.inside;
        int last = now.last();
        for (int k = 0; k < rowCount; k++) {
            int g = rows[k * COLUMNS];
            if (!now.has(g) || !holds(now.mayGo(inside, last), g)) {
                return k + 1;
            }
            inside = without(inside, g);
            last = g;
            if (rows[k * COLUMNS + 1] != Integer.bitCount(inside)
                || rows[k * COLUMNS + 2] != now.fee(g)) {
                return k + 1;
            }
        }
        // With no ROWS there is none that could be wrong: the answer is 0 then, too.
        return now.mayGo(inside, last) != 0 ? rowCount : 0;
    }

    // ---- the host

    public int sheet(int sheet, int sort, int n) {
        if (!isSheet(sheet) || !isBetween(sort, MISSING, BOOLEANS)
            || sort != MISSING && n > ITEMS) {
            return BAD;
        }
        if (sort != MISSING && n < 0) {
            return BELOW_0;
        }
        sheets[sheet].become(sort, sort == MISSING ? 0 : n);
        return 1;
    }

    public int write(int sheet, int i, int v) {
        if (!isSheet(sheet)) {
            return BAD;
        }
        Sheet row = sheets[sheet];
        if (row.sort == MISSING) {
            return NOTHING;
        }
        if (!row.has(i)) {
            return OUTSIDE;
        }
        row.items[i] = row.narrowed(v);
        return 1;
    }

    public int item(int sheet, int sort, int i) {
        if (!isSheet(sheet) || !isBetween(sort, BYTES, BOOLEANS)) {
            return BAD;
        }
        Sheet row = sheets[sheet];
        int refusal = row.refusalAs(sort);
        if (refusal != 0) {
            return refusal;
        }
        return row.has(i) ? row.items[i] : OUTSIDE;
    }

    public int goes(int sheet, int i, int n) {
        if (!isSheet(sheet) || !isBetween(n, 0, GOES)) {
            return BAD;
        }
        Sheet row = sheets[sheet];
        int refusal = row.refusalAs(BYTES);
        if (refusal != 0) {
            return refusal;
        }
        int went = 0;
        for (int k = 0; k < n; k++) {
            if (!row.has(i + k)) {
                return OUTSIDE;
            }
            int g = row.items[i + k];
            if (holds(may(), g)) {
                now.putOut(g);
                went++;
            }
        }
        return went;
    }

    public int goats(int sheet, int i, int n) {
        if (!isSheet(sheet) || !isBetween(n, 0, GOODS)) {
            return BAD;
        }
        Sheet row = sheets[sheet];
        int refusal = row.refusalAs(BYTES);
        if (refusal != 0) {
            return refusal;
        }
        int goats = 0;
        int inside = now.inside;
        int last = now.last();
        for (int k = 0; k < n; k++) {
            if (!row.has(i + k)) {
                return OUTSIDE;
            }
            int g = row.items[i + k];
            if (!holds(now.topsOf(inside), g)) {
                return STATE;
            }
            if (!holds(now.mayGo(inside, last), g)) {
                goats++;
            }
            inside = without(inside, g);
            last = g;
        }
        return goats;
    }

    public int shelf(int shelf, int what, int n) {
        if (!isBetween(shelf, 0, SHELVES - 1) || !isBetween(what, HOLDS_GOOD, HOLDS_NOTHING)
            || what == HOLDS_GOOD && !now.has(n) || what == HOLDS_ROW && !isSheet(n)) {
            return BAD;
        }
        held[shelf] = what;
        heldWhich[shelf] = n;
        if (what == HOLDS_ROW) {
            holdRow(shelf, sheets[n]);
        }
        return 1;
    }

    // The shelf goes on holding this row when the sheet becomes another one.
    private void holdRow(int shelf, Sheet row) {
        held[shelf] = row.sort == MISSING ? HOLDS_NOTHING : HOLDS_ROW;
        heldWhich[shelf] = row.sort;
        heldItems[shelf] = row.count;
    }

    public int taken(int shelf, int as) {
        if (!isBetween(shelf, 0, SHELVES - 1)
            || !isBetween(as, GOOD, ROYAL) && !isBetween(as - ROW_AS, BYTES, BOOLEANS)) {
            return BAD;
        }
        int which = heldWhich[shelf];
        if (held[shelf] == HOLDS_ROW) {
            return which == as - ROW_AS ? heldItems[shelf] : OTHER_SORT;
        }
        if (held[shelf] == HOLDS_NOTHING || !now.has(which)) {
            return NOTHING;
        }
        return isOrIsUnder(now.kind[which], as) ? which : OTHER_SORT;
    }

    public int act(int shelf, int act, int x) {
        latest = isBetween(act, 0, 3) ? thingOn(shelf) : null;
        if (latest == null) {
            return 0;
        }
        int answer;
        switch (act) {
            case 0: answer = latest.weighs(x); break;
            case 1: answer = latest.turns(x); break;
            case 2: answer = latest.splits(x); break;
            default: answer = latest.tells(x); break;
        }
        return latest.isParted ? PARTED_BY_0 : answer;
    }

    private Thing thingOn(int shelf) {
        if (!isBetween(shelf, 0, SHELVES - 1) || held[shelf] != HOLDS_GOOD
            || !now.has(heldWhich[shelf])) {
            return null;
        }
        int n = heldWhich[shelf];
        int a = now.cloth[n];
        switch (now.kind[n]) {
            case TWIN: return new Twin(n, a);
            case LIVING: return new Living(n, a);
            case GOAT: return new Goat(n, a);
            case SEALED: return new Sealed(n, a);
            case ROYAL: return new Royal(n, a);
            default: return new Thing(n, a);
        }
    }

    public int trace(int i) {
        return latest != null && i >= 0 && i < latest.bodies ? latest.trace[i] : NONE;
    }

    public int many(int what) {
        switch (what) {
            case 0: return now.goods;
            case 1: return now.rules.count;
            case 2: return now.out;
            case 3: return now.reports;
            case 4: return rowCount;
            case 5: return reader.size;
            case 6: return latest == null ? 0 : latest.bodies;
            default: return BAD;
        }
    }

    // ---- kept

    public int keep() {
        kept.copyFrom(now);
        isKept = true;
        return 1;
    }

    public int again() {
        if (!isKept) {
            return NONE;
        }
        now.copyFrom(kept);
        return now.goods;
    }

    // ---- small helps

    private static boolean isBetween(int v, int least, int most) {
        return v >= least && v <= most;
    }

    private static boolean isSheet(int sheet) {
        return isBetween(sheet, 0, SHEETS - 1);
    }

    // Java shifts by i modulo 32, so a number that can't be in a set is kept out first.
    private static boolean holds(int set, int i) {
        return i >= 0 && i <= GOODS && (set >> i & 1) == 1;
    }

    private static int without(int set, int i) {
        return i >= 0 && i <= GOODS ? set & ~(1 << i) : set;
    }

    private static boolean isOrIsUnder(int kind, int above) {
        int one = kind;
        for (int k = 0; k < KIND_ABOVE.length && isBetween(one, GOOD, ROYAL); k++) {
            if (one == above) {
                return true;
            }
            one = KIND_ABOVE[one];
        }
        return false;
    }

    /** What keep() keeps: GOODS, THE LINE, GAP, DAY, THE RULES, REPORTS and z. */
    private static final class Shed {
        final int[] kind = new int[GOODS];
        final int[] bay = new int[GOODS];
        final int[] cloth = new int[GOODS];
        final int[] worth = new int[GOODS];
        // Those that came BESIDE each good, as sets; renewed when what they hang on changes.
        final int[] mateSets = new int[GOODS];
        int goods;
        // Those that are IN, as a set.
        int inside;
        final int[] line = new int[GOODS];
        int out;
        int gap = 1;
        int day;
        final Rules rules = new Rules();
        final int[] reportGood = new int[REPORTS];
        final int[] reportCould = new int[REPORTS];
        int reports;
        // The document's z.
        int lot = 1;

        boolean has(int g) {
            return g >= 0 && g < goods;
        }

        int add(int itsKind, int itsBay, int itsCloth, int itsWorth) {
            if (goods >= GOODS) {
                return FULL;
            }
            int g = goods;
            kind[g] = itsKind;
            bay[g] = itsBay;
            cloth[g] = itsCloth;
            worth[g] = itsWorth;
            inside |= 1 << g;
            goods++;
            renewMates();
            return g;
        }

        int addReport(int g, int could) {
            if (reports >= REPORTS) {
                return FULL;
            }
            reportGood[reports] = g;
            reportCould[reports] = could;
            reports++;
            return reports - 1;
        }

        void becomeKind(int g, int itsKind) {
            if (has(g)) {
                kind[g] = itsKind;
                renewMates();
            }
        }

        void becomeGap(int v) {
            gap = v;
            renewMates();
        }

        void renewMates() {
            for (int g = 0; g < goods; g++) {
                int set = 0;
                for (int h = 0; h < goods; h++) {
                    if (cameBeside(g, h)) {
                        set |= 1 << h;
                    }
                }
                mateSets[g] = set;
            }
        }

        private boolean cameBeside(int g, int h) {
            if (g == h || kind[g] == GOAT || kind[h] == GOAT) {
                return false;
            }
            return isNear(g, h) || standsNear(g, h) || standsNear(h, g);
        }

        // Whether g is a twin for which a third good of its CLOTH stands NEAR h.
        private boolean standsNear(int g, int h) {
            if (kind[g] != TWIN) {
                return false;
            }
            for (int third = 0; third < goods; third++) {
                if (third != g && third != h && cloth[third] == cloth[g] && isNear(third, h)) {
                    return true;
                }
            }
            return false;
        }

        private boolean isNear(int g, int h) {
            return Math.abs(g - h) <= gap;
        }

        int last() {
            return out > 0 ? line[out - 1] : -1;
        }

        int topsOf(int set) {
            int tops = 0;
            int baysSeen = 0;
            for (int g = goods - 1; g >= 0; g--) {
                if (holds(set, g) && !holds(baysSeen, bay[g])) {
                    tops |= 1 << g;
                    baysSeen |= 1 << bay[g];
                }
            }
            return tops;
        }

        // Of a set that is IN those that MAY GO behind a last one (none, if it is below 0).
        int mayGo(int set, int last) {
            int tops = topsOf(set);
            return has(last) ? tops & ~mateSets[last] : tops;
        }

        void putOut(int g) {
            if (has(g) && out < GOODS) {
                inside = without(inside, g);
                line[out] = g;
                out++;
            }
        }

        int bringBack() {
            int g = last();
            if (!has(g)) {
                return NONE;
            }
            out--;
            inside |= 1 << g;
            return g;
        }

        int placeInLine(int g) {
            for (int i = 0; i < out; i++) {
                if (line[i] == g) {
                    return i;
                }
            }
            return NO_PLACE;
        }

        int fee(int g) {
            if (!has(g)) {
                return 0;
            }
            int w = Math.max(0, worth[g] + rules.changeFor(this, g));
            switch (kind[g]) {
                case TWIN: return w / 2;
                case LIVING: return w + 10 * day;
                case GOAT: return Math.max(0, w + 10 * day - cloth[g]);
                case SEALED: return w + 50;
                default: return 2 * (w + 50);
            }
        }

        // PLACES that FIT, as a set, as if one REPORT were none.
        int placesBut(int ignored) {
            int places = 0;
            for (int place = 0; place <= goods; place++) {
                if (fits(place, ignored)) {
                    places |= 1 << place;
                }
            }
            return places;
        }

        private boolean fits(int place, int ignored) {
            for (int r = 0; r < reports; r++) {
                if (r != ignored && couldGoBehind(reportGood[r], place) != reportCould[r]) {
                    return false;
                }
            }
            return true;
        }

        private int couldGoBehind(int g, int place) {
            boolean isGoat = has(g) && kind[g] == GOAT;
            return isGoat || g < place - gap || g >= place + gap ? 1 : 0;
        }

        void copyFrom(Shed other) {
            System.arraycopy(other.kind, 0, kind, 0, GOODS);
            System.arraycopy(other.bay, 0, bay, 0, GOODS);
            System.arraycopy(other.cloth, 0, cloth, 0, GOODS);
            System.arraycopy(other.worth, 0, worth, 0, GOODS);
            System.arraycopy(other.mateSets, 0, mateSets, 0, GOODS);
            System.arraycopy(other.line, 0, line, 0, GOODS);
            System.arraycopy(other.reportGood, 0, reportGood, 0, REPORTS);
            System.arraycopy(other.reportCould, 0, reportCould, 0, REPORTS);
            goods = other.goods;
            inside = other.inside;
            out = other.out;
            gap = other.gap;
            day = other.day;
            reports = other.reports;
            lot = other.lot;
            rules.copyFrom(other.rules);
        }
    }

    /** THE RULES; their conditions are rows of steps, each behind what it works on. */
    private static final class Rules {
        // As many as make the greatest WORTH nothing.
        static final int ALL_AWAY = -MOST_WORTH;

        int count;
        private final int[] kind = new int[RULES];
        private final int[] change = new int[RULES];
        // Where each one's steps end; they begin where those of the one ahead end.
        private final int[] end = new int[RULES];
        private int steps;
        private final int[] sign = new int[STEPS];
        private final int[] left = new int[STEPS];
        private final int[] right = new int[STEPS];

        void clear() {
            count = 0;
            steps = 0;
        }

        void addStep(int itsSign, int itsLeft, int itsRight) {
            if (steps < STEPS) {
                sign[steps] = itsSign;
                left[steps] = itsLeft;
                right[steps] = itsRight;
                steps++;
            }
        }

        void addRule(int itsKind, int itsChange) {
            if (count < RULES) {
                kind[count] = itsKind;
                change[count] = itsChange;
                end[count] = steps;
                count++;
            }
        }

        // How much more a good's w is than its WORTH.
        int changeFor(Shed shed, int g) {
            for (int r = 0; r < count; r++) {
                if (isOrIsUnder(shed.kind[g], kind[r]) && isSo(r, shed, g)) {
                    return change[r];
                }
            }
            return 0;
        }

        private boolean isSo(int r, Shed shed, int g) {
            // The answers that wait are bits, the latest lowest; a rule without steps is so.
            int answers = 1;
            for (int i = r == 0 ? 0 : end[r - 1]; i < end[r]; i++) {
                switch (sign[i]) {
                    case NOT: answers ^= 1; break;
                    case AND: answers = answers >> 1 & (answers | -2); break;
                    case OR: answers = answers >> 1 | answers & 1; break;
                    default: answers = answers << 1 | compared(i, shed, g); break;
                }
            }
            return (answers & 1) == 1;
        }

        private int compared(int i, Shed shed, int g) {
            int first = valueOf(left[i], shed, g);
            int second = valueOf(right[i], shed, g);
            switch (sign[i]) {
                case BELOW: return first < second ? 1 : 0;
                case ABOVE: return first > second ? 1 : 0;
                default: return first == second ? 1 : 0;
            }
        }

        private static int valueOf(int token, Shed shed, int g) {
            switch (token) {
                case THE_GAP: return shed.gap;
                case THE_DAY: return shed.day;
                case THE_CLOTH: return shed.cloth[g];
                case THE_WORTH: return shed.worth[g];
                case THE_NUMBER: return g;
                default: return token;
            }
        }

        void copyFrom(Rules other) {
            count = other.count;
            steps = other.steps;
            System.arraycopy(other.kind, 0, kind, 0, RULES);
            System.arraycopy(other.change, 0, change, 0, RULES);
            System.arraycopy(other.end, 0, end, 0, RULES);
            System.arraycopy(other.sign, 0, sign, 0, STEPS);
            System.arraycopy(other.left, 0, left, 0, STEPS);
            System.arraycopy(other.right, 0, right, 0, STEPS);
        }
    }

    /** THE TAPE, and who reads THE RULES from it. */
    private static final class Reader {
        private static final int LETTER = 0, DIGIT = 1, OTHER = 2;
        private static final int MOST_DIGITS = 4;

        int size;
        private final byte[] tape = new byte[TAPE];
        private final int[] tokens = new int[TAPE + 1];
        private final int[] places = new int[TAPE + 1];
        private int tokenCount;
        private int next;
        private final Rules draft = new Rules();

        int take(long eight, int n) {
            if (size + n > TAPE) {
                return FULL;
            }
            for (int k = 0; k < n; k++) {
                tape[size] = (byte) (eight >>> 8 * k);
                size++;
            }
            return size;
        }

        // How many rules there are now, or -100 less the FAULT; then they stay as they were.
        int readInto(Rules rules) {
            partTape();
            next = 0;
            size = 0;
            draft.clear();
            // One round more than there may be rules: it finds the ninth.
            for (int k = 0; k <= RULES && peek() != END; k++) {
                if (!readRule()) {
                    return -100 - (next < tokenCount ? places[next] : 0);
                }
            }
            rules.copyFrom(draft);
            return rules.count;
        }

        private void partTape() {
            tokenCount = 0;
            int from = 0;
            for (int k = 0; k < TAPE && from < size; k++) {
                int sort = sortOf(tape[from]);
                int to = from + 1;
                while (sort != OTHER && to < size && sortOf(tape[to]) == sort) {
                    to++;
                }
                if (sort == LETTER) {
                    addToken(nameAt(from, to), from);
                } else if (sort == DIGIT) {
                    addToken(numberAt(from, to), from);
                } else if (tape[from] != ' ') {
                    addToken(byteAt(from), from);
                }
                from = to;
            }
            addToken(END, size);
        }

        private void addToken(int token, int place) {
            if (tokenCount <= TAPE) {
                tokens[tokenCount] = token;
                places[tokenCount] = place;
                tokenCount++;
            }
        }

        private static int sortOf(byte b) {
            if (b >= 'a' && b <= 'z') {
                return LETTER;
            }
            return b >= '0' && b <= '9' ? DIGIT : OTHER;
        }

        private int nameAt(int from, int to) {
            int word = 0;
            // Behind the last byte that is as in the word; none is, once it stands beyond to.
            int alike = from;
            for (int i = 0; i < WORDS.length(); i++) {
                char sign = WORDS.charAt(i);
                if (sign != ' ') {
                    alike = alike < to && tape[alike] == sign ? alike + 1 : TAPE + 1;
                } else if (alike == to) {
                    return NAME + word;
                } else {
                    word++;
                    alike = from;
                }
            }
            return NO_TOKEN;
        }

        private int numberAt(int from, int to) {
            if (to - from > MOST_DIGITS) {
                return NO_TOKEN;
            }
            int number = 0;
            for (int i = from; i < to; i++) {
                number = number * 10 + (tape[i] - '0');
            }
            return number;
        }

        private int byteAt(int i) {
            switch (tape[i]) {
                case ';': case '(': case ')': case '<': case '=': case '>': return BYTE + tape[i];
                default: return NO_TOKEN;
            }
        }

        private int peek() {
            return next < tokenCount ? tokens[next] : END;
        }

        // The read functions leave next at what can't stand there, when they answer false.
        private boolean readRule() {
            int kind = peek() - NAME;
            if (draft.count >= RULES || !isBetween(kind, GOOD, ROYAL)) {
                return false;
            }
            next++;
            if (peek() == IF) {
                next++;
                if (!readCondition(0)) {
                    return false;
                }
            }
            int what = peek();
            if (what != MORE && what != LESS && what != FREE) {
                return false;
            }
            next++;
            int change = Rules.ALL_AWAY;
            if (what != FREE) {
                int n = peek();
                if (n > MOST_CHANGE) {
                    return false;
                }
                next++;
                change = what == MORE ? n : -n;
            }
            if (peek() != BYTE + ';') {
                return false;
            }
            next++;
            draft.addRule(kind, change);
            return true;
        }

        private boolean readCondition(int open) {
            boolean isRead = readAll(open);
            for (int k = 0; k < TAPE && isRead && peek() == OR; k++) {
                next++;
                isRead = readAll(open);
                draft.addStep(OR, 0, 0);
            }
            return isRead;
        }

        private boolean readAll(int open) {
            boolean isRead = readOne(open);
            for (int k = 0; k < TAPE && isRead && peek() == AND; k++) {
                next++;
                isRead = readOne(open);
                draft.addStep(AND, 0, 0);
            }
            return isRead;
        }

        private boolean readOne(int open) {
            boolean isNot = false;
            for (int k = 0; k < TAPE && peek() == NOT; k++) {
                next++;
                isNot = !isNot;
            }
            if (peek() == BYTE + '(') {
                if (open >= OPEN) {
                    return false;
                }
                next++;
                if (!readCondition(open + 1) || peek() != BYTE + ')') {
                    return false;
                }
                next++;
            } else if (!readComparison()) {
                return false;
            }
            if (isNot) {
                draft.addStep(NOT, 0, 0);
            }
            return true;
        }

        private boolean readComparison() {
            int left = peek();
            if (!isValue(left)) {
                return false;
            }
            next++;
            int sign = peek();
            if (sign != BELOW && sign != SAME && sign != ABOVE) {
                return false;
            }
            next++;
            int right = peek();
            if (!isValue(right)) {
                return false;
            }
            next++;
            draft.addStep(sign, left, right);
            return true;
        }

        private static boolean isValue(int token) {
            return token < NAME || token >= THE_GAP && token <= THE_NUMBER;
        }
    }

    /** What can come of a shed: all that may still happen, each state studied once. */
    private static final class Orders {
        private static final int LASTS = GOODS + 1, STATES = (1 << GOODS) * LASTS;

        private final Shed shed;
        // The study in which a state was met last: so nothing need be wiped ahead of the next.
        private final int[] studied = new int[STATES];
        private int studies;
        private final int[] ways = new int[STATES];
        private final int[] most = new int[STATES];
        private final int[] cost = new int[STATES];
        private final boolean[] wins = new boolean[STATES];
        private final int[] fees = new int[GOODS];
        private int atFirst;
        // All that go in some order, as a set.
        int goers;
        final int[] first = new int[GOODS];

        Orders(Shed shed) {
            this.shed = shed;
        }

        // Answers how many WAYS there are.
        int study() {
            studies++;
            goers = 0;
            atFirst = Integer.bitCount(shed.inside);
            for (int g = 0; g < GOODS; g++) {
                fees[g] = shed.fee(g);
            }
            visit(shed.inside, shed.last(), 0);
            return waysBehind(shed.inside, shed.last());
        }

        private void visit(int set, int last, int depth) {
            int state = stateOf(set, last);
            if (depth > GOODS || studied[state] == studies) {
                return;
            }
            studied[state] = studies;
            ways[state] = set == 0 ? 1 : 0;
            most[state] = 0;
            cost[state] = set == 0 ? 0 : Integer.MAX_VALUE;
            wins[state] = false;
            int free = shed.mayGo(set, last);
            goers |= free;
            for (int g = 0; g < GOODS; g++) {
                if (holds(free, g)) {
                    visitBehind(set, state, g, depth);
                }
            }
        }

        private void visitBehind(int set, int state, int g, int depth) {
            int rest = without(set, g);
            visit(rest, g, depth + 1);
            int behind = stateOf(rest, g);
            ways[state] += ways[behind];
            most[state] = Math.max(most[state], most[behind] + 1);
            if (!wins[behind]) {
                wins[state] = true;
            }
            if (ways[behind] > 0) {
                cost[state] = Math.min(cost[state], costOf(set, g) + cost[behind]);
            }
        }

        private int costOf(int set, int g) {
            return fees[g] * (atFirst - Integer.bitCount(set) + 1);
        }

        private static int stateOf(int set, int last) {
            int state = set * LASTS + last + 1;
            return isBetween(state, 0, STATES - 1) ? state : 0;
        }

        int waysBehind(int set, int last) {
            return ways[stateOf(set, last)];
        }

        boolean wins(int set, int last) {
            return wins[stateOf(set, last)];
        }

        int leastCost() {
            int state = stateOf(shed.inside, shed.last());
            return ways[state] > 0 ? cost[state] : NONE;
        }

        // Puts the FIRST order of those asked for into first: how many go in it.
        int findFirst(int which) {
            int size = 0;
            int set = shed.inside;
            int last = shed.last();
            for (int k = 0; k < GOODS; k++) {
                int g = leastNext(set, last, which);
                if (g == NONE) {
                    return size;
                }
                first[size] = g;
                size++;
                set = without(set, g);
                last = g;
            }
            return size;
        }

        private int leastNext(int set, int last, int which) {
            int free = shed.mayGo(set, last);
            for (int g = 0; g < GOODS; g++) {
                if (holds(free, g) && leadsOn(set, last, g, which)) {
                    return g;
                }
            }
            return NONE;
        }

        private boolean leadsOn(int set, int last, int g, int which) {
            int state = stateOf(set, last);
            int behind = stateOf(without(set, g), g);
            switch (which) {
                case WAY: return ways[behind] > 0;
                case LONGEST: return most[behind] + 1 == most[state];
                default:
                    return ways[behind] > 0 && costOf(set, g) + cost[behind] == cost[state];
            }
        }
    }

    /** A SHEET: its row, or none. */
    private static final class Sheet {
        int sort = MISSING;
        int count;
        final int[] items = new int[ITEMS];

        void become(int itsSort, int n) {
            sort = itsSort;
            count = n;
            for (int i = 0; i < ITEMS; i++) {
                items[i] = 0;
            }
        }

        boolean has(int i) {
            return i >= 0 && i < count;
        }

        int refusalAs(int asSort) {
            if (sort == MISSING) {
                return NOTHING;
            }
            return sort == asSort ? 0 : OTHER_SORT;
        }

        int narrowed(int v) {
            switch (sort) {
                case BYTES: return (byte) v;
                case SHORTS: return (short) v;
                case BOOLEANS: return v != 0 ? 1 : 0;
                default: return v;
            }
        }
    }

    /** A good as the host holds it, with the bodies of KIND good, and THE TRACE of its act. */
    private static class Thing {
        final int n;
        final int a;
        final int[] trace = new int[BODIES];
        int bodies;
        boolean isParted;

        Thing(int n, int a) {
            this.n = n;
            this.a = a;
        }

        final void ran(int body) {
            if (bodies < BODIES) {
                trace[bodies] = body;
                bodies++;
            }
        }

        int weighs(int x) {
            ran(10);
            return x - n;
        }

        int turns(int x) {
            ran(11);
            return weighs(x) * 3;
        }

        int splits(int x) {
            ran(12);
            int by = a - n;
            if (by == 0) {
                isParted = true;
                return 0;
            }
            return x / by;
        }

        int tells(int x) {
            ran(13);
            return turns(x) ^ a;
        }
    }

    private static final class Twin extends Thing {
        Twin(int n, int a) {
            super(n, a);
        }

        int weighs(int x) {
            ran(20);
            return super.weighs(x) * 2;
        }
    }

    private static class Living extends Thing {
        Living(int n, int a) {
            super(n, a);
        }

        int turns(int x) {
            ran(30);
            return super.turns(x) + a;
        }
    }

    private static final class Goat extends Living {
        Goat(int n, int a) {
            super(n, a);
        }

        int weighs(int x) {
            ran(50);
            return super.weighs(x) ^ a;
        }

        int tells(int x) {
            ran(51);
            int told = super.tells(x);
            return told - splits(n);
        }
    }

    private static class Sealed extends Thing {
        Sealed(int n, int a) {
            super(n, a);
        }

        int splits(int x) {
            ran(40);
            return super.splits(x - 1);
        }
    }

    private static final class Royal extends Sealed {
        Royal(int n, int a) {
            super(n, a);
        }

        int turns(int x) {
            ran(60);
            return 0 - super.turns(x);
        }

        int splits(int x) {
            ran(61);
            int part = super.splits(x);
            // Parted by 0, the act ends there: no more bodies run.
            return isParted ? 0 : part + weighs(a);
        }
    }
}
