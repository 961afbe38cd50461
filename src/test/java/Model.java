import java.lang.reflect.Array;
import java.util.ArrayList;
import java.util.Arrays;
import java.util.List;
import java.util.TreeSet;

/**
 * The document told a second time, by other means: orders are written out one by one, the host's
 * things are Java's own arrays and classes, and what the machine throws is the refusal.
 */
public final class Model {
    private static final int BAD = -1, FULL = -2, NONE = -3, STATE = -4;
    private static final String[] KINDS = {"good", "twin", "living", "goat", "sealed", "royal"};

    private static final class Good {
        int kind, bay, cloth, worth;
        boolean isIn = true;

        Good(int kind, int bay, int cloth, int worth) {
            this.kind = kind;
            this.bay = bay;
            this.cloth = cloth;
            this.worth = worth;
        }
    }

    private static final class Rule {
        int kind;
        String sort;
        int n;
        List<String> condition = new ArrayList<>();
    }

    private List<Good> goods = new ArrayList<>();
    private List<Integer> line = new ArrayList<>();
    private int gap = 1, day = 0, z = 1;
    private List<Rule> rules = new ArrayList<>();
    private List<int[]> reports = new ArrayList<>();
    private Model keptOne;
    private final List<Byte> tape = new ArrayList<>();
    private List<int[]> rows = new ArrayList<>();
    private final Object[] sheets = new Object[4];
    private final Object[] shelves = new Object[4];
    private List<Integer> trace = new ArrayList<>();

    // ---- goods

    public int good(int kind, int bay, int cloth, int worth) {
        if (kind < 1 || kind > 5 || bay < 0 || bay > 2 || cloth < 0 || cloth > 9
            || worth < 1 || worth > 999) {
            return BAD;
        }
        if (goods.size() == 9) {
            return FULL;
        }
        goods.add(new Good(kind, bay, cloth, worth));
        return goods.size() - 1;
    }

    private boolean isGood(int g) {
        return g >= 0 && g < goods.size();
    }

    public int goodOf(int g, int what) {
        if (!isGood(g) || what < 0 || what > 6) {
            return BAD;
        }
        Good it = goods.get(g);
        if (what == 5) {
            return mayNow().contains(g) ? 3 : isTop(g) ? 2 : it.isIn ? 1 : 0;
        }
        if (what == 6) {
            return line.contains(g) ? line.indexOf(g) : -9;
        }
        return new int[] {it.kind, it.bay, it.cloth, it.worth, fee(g)}[what];
    }

    public int change(int g, int what, int v) {
        if (!isGood(g) || what != 2 && what != 3) {
            return BAD;
        }
        if (what == 2 ? v < 0 || v > 9 : v < 1 || v > 999) {
            return BAD;
        }
        Good it = goods.get(g);
        int was = what == 2 ? it.cloth : it.worth;
        if (what == 2) {
            it.cloth = v;
        } else {
            it.worth = v;
        }
        return was;
    }

    public int remake(int g, int kind) {
        if (!isGood(g) || kind < 1 || kind > 5) {
            return BAD;
        }
        int was = goods.get(g).kind;
        goods.get(g).kind = kind;
        return was;
    }

    public int let(int what, int v) {
        int was;
        if (what == 0 && v >= 1 && v <= 3) {
            was = gap;
            gap = v;
        } else if (what == 1 && v >= 0 && v <= 9) {
            was = day;
            day = v;
        } else {
            return BAD;
        }
        return was;
    }

    private boolean isUnder(int kind, int above) {
        switch (above) {
            case 0: return true;
            case 2: return kind == 2 || kind == 3;
            case 4: return kind == 4 || kind == 5;
            default: return kind == above;
        }
    }

    private int fee(int g) {
        Good it = goods.get(g);
        int w = it.worth;
        for (Rule rule : rules) {
            if (isUnder(it.kind, rule.kind) && (rule.condition.isEmpty() || isSo(rule, g))) {
                w = rule.sort.equals("more") ? w + rule.n
                    : rule.sort.equals("less") ? Math.max(w - rule.n, 0) : 0;
                break;
            }
        }
        switch (it.kind) {
            case 1: return w / 2;
            case 2: return w + day * 10;
            case 3: return Math.max(w + day * 10 - it.cloth, 0);
            case 4: return w + 50;
            default: return (w + 50) * 2;
        }
    }

    // ---- the rules

    public int feed(long eight, int n) {
        if (n < 1 || n > 8) {
            return BAD;
        }
        if (tape.size() + n > 200) {
            return FULL;
        }
        for (int k = 0; k < n; k++) {
            tape.add((byte) (eight & 255));
            eight >>= 8;
        }
        return tape.size();
    }

    // What is awaited: a machine of states instead of functions that call one another.
    private enum Awaited { KIND, IF_OR_DO, ONE, SIGN, SECOND, BEHIND_ONE, N, SEMICOLON }

    public int rules() {
        StringBuilder text = new StringBuilder();
        for (byte b : tape) {
            text.append((char) (b & 255));
        }
        tape.clear();
        List<Rule> told = new ArrayList<>();
        Awaited awaited = Awaited.KIND;
        int open = 0;
        int at = 0;
        while (true) {
            while (at < text.length() && text.charAt(at) == ' ') {
                at++;
            }
            if (at == text.length()) {
                if (awaited != Awaited.KIND) {
                    return -100 - at;
                }
                rules = told;
                return rules.size();
            }
            String token = tokenAt(text, at);
            Rule rule = told.isEmpty() ? null : told.get(told.size() - 1);
            Awaited next = null;
            boolean isNumber = token.matches("[0-9]{1,4}");
            boolean isValue = isNumber || token.matches("gap|day|cloth|worth|number");
            switch (awaited) {
                case KIND:
                    int kind = Arrays.asList(KINDS).indexOf(token);
                    if (kind >= 0 && told.size() < 8) {
                        rule = new Rule();
                        rule.kind = kind;
                        told.add(rule);
                        next = Awaited.IF_OR_DO;
                    }
                    break;
                case IF_OR_DO:
                    next = token.equals("if") ? Awaited.ONE : behindDo(rule, token);
                    break;
                case ONE:
                    if (token.equals("not")) {
                        next = Awaited.ONE;
                    } else if (token.equals("(") && open < 3) {
                        open++;
                        next = Awaited.ONE;
                    } else if (isValue) {
                        next = Awaited.SIGN;
                    }
                    if (next != null) {
                        rule.condition.add(token);
                    }
                    break;
                case SIGN:
                    if (token.matches("[<=>]")) {
                        next = Awaited.SECOND;
                        rule.condition.add(token);
                    }
                    break;
                case SECOND:
                    if (isValue) {
                        next = Awaited.BEHIND_ONE;
                        rule.condition.add(token);
                    }
                    break;
                case BEHIND_ONE:
                    if (token.equals("and") || token.equals("or")) {
                        next = Awaited.ONE;
                        rule.condition.add(token);
                    } else if (token.equals(")") && open > 0) {
                        open--;
                        next = Awaited.BEHIND_ONE;
                        rule.condition.add(token);
                    } else if (open == 0) {
                        next = behindDo(rule, token);
                    }
                    break;
                case N:
                    if (isNumber && Integer.parseInt(token) <= 999) {
                        rule.n = Integer.parseInt(token);
                        next = Awaited.SEMICOLON;
                    }
                    break;
                default:
                    next = token.equals(";") ? Awaited.KIND : null;
                    break;
            }
            if (next == null) {
                return -100 - at;
            }
            awaited = next;
            at += token.length();
        }
    }

    private static Awaited behindDo(Rule rule, String token) {
        rule.sort = token;
        if (token.equals("free")) {
            return Awaited.SEMICOLON;
        }
        return token.equals("more") || token.equals("less") ? Awaited.N : null;
    }

    private static String tokenAt(CharSequence text, int at) {
        java.util.regex.Matcher m =
            java.util.regex.Pattern.compile("[a-z]+|[0-9]+|[\\x00-\\xff]").matcher(text);
        m.find(at);
        return m.group();
    }

    // Parted at the weakest word that stands in no "(": what is outermost first.
    private boolean isSo(Rule rule, int g) {
        return isSo(rule.condition, g);
    }

    private boolean isSo(List<String> c, int g) {
        for (String word : new String[] {"or", "and"}) {
            int open = 0;
            for (int i = 0; i < c.size(); i++) {
                open += c.get(i).equals("(") ? 1 : c.get(i).equals(")") ? -1 : 0;
                if (open == 0 && c.get(i).equals(word)) {
                    boolean left = isSo(c.subList(0, i), g);
                    boolean right = isSo(c.subList(i + 1, c.size()), g);
                    return word.equals("or") ? left || right : left && right;
                }
            }
        }
        if (c.get(0).equals("not")) {
            return !isSo(c.subList(1, c.size()), g);
        }
        if (c.get(0).equals("(")) {
            return isSo(c.subList(1, c.size() - 1), g);
        }
        int left = value(c.get(0), g);
        int right = value(c.get(2), g);
        return c.get(1).equals("<") ? left < right : c.get(1).equals(">") ? left > right
            : left == right;
    }

    private int value(String word, int g) {
        switch (word) {
            case "gap": return gap;
            case "day": return day;
            case "cloth": return goods.get(g).cloth;
            case "worth": return goods.get(g).worth;
            case "number": return g;
            default: return Integer.parseInt(word);
        }
    }

    // ---- who goes

    private boolean near(int g, int h) {
        return Math.max(g, h) - Math.min(g, h) <= gap;
    }

    private boolean came(int g, int h) {
        if (goods.get(g).kind == 3 || goods.get(h).kind == 3) {
            return false;
        }
        boolean is = near(g, h);
        for (int third = 0; third < goods.size(); third++) {
            if (third == g || third == h) {
                continue;
            }
            int cloth = goods.get(third).cloth;
            is |= goods.get(g).kind == 1 && goods.get(g).cloth == cloth && near(third, h);
            is |= goods.get(h).kind == 1 && goods.get(h).cloth == cloth && near(third, g);
        }
        return is;
    }

    public int beside(int g, int h) {
        if (!isGood(g) || !isGood(h) || g == h) {
            return BAD;
        }
        return came(g, h) ? 1 : 0;
    }

    public int mates(int g) {
        if (!isGood(g)) {
            return BAD;
        }
        int set = 0;
        for (int h = 0; h < goods.size(); h++) {
            set += h != g && came(g, h) ? 1 << h : 0;
        }
        return set;
    }

    private boolean isTop(int g) {
        if (!goods.get(g).isIn) {
            return false;
        }
        for (int h = g + 1; h < goods.size(); h++) {
            if (goods.get(h).isIn && goods.get(h).bay == goods.get(g).bay) {
                return false;
            }
        }
        return true;
    }

    private List<Integer> mayNow() {
        List<Integer> free = new ArrayList<>();
        for (int g = 0; g < goods.size(); g++) {
            if (isTop(g) && (line.isEmpty() || !came(line.get(line.size() - 1), g))) {
                free.add(g);
            }
        }
        return free;
    }

    public int may() {
        int set = 0;
        for (int g : mayNow()) {
            set |= 1 << g;
        }
        return set;
    }

    public int tops() {
        int set = 0;
        for (int g = 0; g < goods.size(); g++) {
            set |= isTop(g) ? 1 << g : 0;
        }
        return set;
    }

    private void out(int g) {
        goods.get(g).isIn = false;
        line.add(g);
    }

    private int back() {
        int g = line.remove(line.size() - 1);
        goods.get(g).isIn = true;
        return g;
    }

    public int go(int g) {
        if (!isGood(g)) {
            return BAD;
        }
        if (!mayNow().contains(g)) {
            return STATE;
        }
        out(g);
        return fee(g);
    }

    public int come() {
        return line.isEmpty() ? NONE : back();
    }

    public int line(int i) {
        return i < 0 || i >= line.size() ? NONE : line.get(i);
    }

    private int cost(List<Integer> order) {
        int cost = 0;
        for (int i = 0; i < order.size(); i++) {
            cost += (i + 1) * fee(order.get(i));
        }
        return cost;
    }

    public int paid() {
        return cost(line);
    }

    // ---- orders

    private int in() {
        return goods.size() - line.size();
    }

    // All orders that end because none MAY GO, least first.
    private List<List<Integer>> ends() {
        List<List<Integer>> found = new ArrayList<>();
        List<Integer> free = mayNow();
        if (free.isEmpty()) {
            found.add(new ArrayList<>());
        }
        for (int g : free) {
            out(g);
            for (List<Integer> rest : ends()) {
                rest.add(0, g);
                found.add(rest);
            }
            back();
        }
        return found;
    }

    private List<List<Integer>> allWays() {
        List<List<Integer>> found = ends();
        found.removeIf(order -> order.size() != in());
        return found;
    }

    private List<Integer> longestOne() {
        List<Integer> best = null;
        for (List<Integer> order : ends()) {
            if (best == null || order.size() > best.size()) {
                best = order;
            }
        }
        return best;
    }

    private List<Integer> cheapestOne() {
        List<Integer> best = null;
        for (List<Integer> order : allWays()) {
            if (best == null || cost(order) < cost(best)) {
                best = order;
            }
        }
        return best;
    }

    private static int nth(List<Integer> order, int i) {
        if (i < 0 || i > 8) {
            return BAD;
        }
        return order == null || i >= order.size() ? NONE : order.get(i);
    }

    public int ways() {
        return allWays().size();
    }

    public int way(int i) {
        List<List<Integer>> all = allWays();
        return nth(all.isEmpty() ? null : all.get(0), i);
    }

    public int longest() {
        return longestOne().size();
    }

    public int far(int i) {
        return nth(longestOne(), i);
    }

    public int cheapest() {
        List<Integer> best = cheapestOne();
        return best == null ? NONE : cost(best);
    }

    public int cheap(int i) {
        return nth(cheapestOne(), i);
    }

    public int never() {
        TreeSet<Integer> gone = new TreeSet<>(line);
        for (List<Integer> order : ends()) {
            gone.addAll(order);
        }
        int set = 0;
        for (int g = 0; g < goods.size(); g++) {
            set |= gone.contains(g) ? 0 : 1 << g;
        }
        return set;
    }

    public int best() {
        int best = NONE;
        int most = -1;
        for (int g : mayNow()) {
            out(g);
            int n = ways();
            back();
            if (n > most) {
                most = n;
                best = g;
            }
        }
        return best;
    }

    public int goat() {
        int most = ways();
        int best = NONE;
        for (int g = 0; g < goods.size(); g++) {
            if (goods.get(g).isIn) {
                int was = goods.get(g).kind;
                goods.get(g).kind = 3;
                int n = ways();
                goods.get(g).kind = was;
                if (n > most) {
                    most = n;
                    best = g;
                }
            }
        }
        return best;
    }

    public int gapFor() {
        int was = gap;
        int best = NONE;
        for (gap = 1; gap <= 3; gap++) {
            if (ways() > 0) {
                best = gap;
            }
        }
        gap = was;
        return best;
    }

    private boolean moverWins() {
        return winner() != NONE;
    }

    private int winner() {
        for (int g : mayNow()) {
            out(g);
            boolean otherWins = moverWins();
            back();
            if (!otherWins) {
                return g;
            }
        }
        return NONE;
    }

    public int game() {
        return moverWins() ? 1 : 0;
    }

    public int play() {
        return winner();
    }

    // ---- a stolen crate, lots

    public int report(int g, int could) {
        if (!isGood(g) || could != 0 && could != 1) {
            return BAD;
        }
        if (reports.size() == 6) {
            return FULL;
        }
        reports.add(new int[] {g, could});
        return reports.size() - 1;
    }

    public int forget() {
        int was = reports.size();
        reports.clear();
        return was;
    }

    private List<Integer> fitting(List<int[]> told) {
        List<Integer> places = new ArrayList<>();
        for (int p = 0; p <= goods.size(); p++) {
            boolean fits = true;
            for (int[] r : told) {
                boolean could = goods.get(r[0]).kind == 3 || r[0] < p - gap || !(r[0] < p + gap);
                fits = fits && could == (r[1] == 1);
            }
            if (fits) {
                places.add(p);
            }
        }
        return places;
    }

    public int span(int what) {
        if (what < 0 || what > 2) {
            return BAD;
        }
        List<Integer> places = fitting(reports);
        if (what == 0) {
            return places.size();
        }
        return places.isEmpty() ? NONE : places.get(what == 1 ? 0 : places.size() - 1);
    }

    public int liar() {
        if (!fitting(reports).isEmpty()) {
            return NONE;
        }
        for (int r = 0; r < reports.size(); r++) {
            List<int[]> others = new ArrayList<>(reports);
            others.remove(r);
            if (!fitting(others).isEmpty()) {
                return r;
            }
        }
        return NONE;
    }

    public int seed(int v) {
        int was = z;
        z = v;
        return was;
    }

    public int draw() {
        List<Integer> free = mayNow();
        if (free.isEmpty()) {
            return NONE;
        }
        z = z * 1103515245 + 12345;
        int g = free.get((z >>> 16) % free.size());
        out(g);
        return g;
    }

    public int often(int n) {
        if (n < 1 || n > 60) {
            return BAD;
        }
        int wasZ = z;
        int wasOut = line.size();
        int all = 0;
        for (int k = 0; k < n; k++) {
            while (draw() != NONE) {
                continue;
            }
            all += in() == 0 ? 1 : 0;
            while (line.size() > wasOut) {
                back();
            }
        }
        z = wasZ;
        return all;
    }

    // ---- rows

    public int prove() {
        List<List<Integer>> all = allWays();
        if (all.isEmpty()) {
            return NONE;
        }
        rows = new ArrayList<>();
        int behind = in();
        for (int g : all.get(0)) {
            behind--;
            rows.add(new int[] {g, behind, fee(g)});
        }
        return rows.size();
    }

    public int row(int k, int what) {
        try {
            return rows.get(k)[what];
        } catch (IndexOutOfBoundsException e) {
            return -9;
        }
    }

    public int alterRow(int k, int what, int v) {
        int was = row(k, what);
        try {
            rows.get(k)[what] = v;
        } catch (IndexOutOfBoundsException e) {
            return -9;
        }
        return was;
    }

    public int judge() {
        int wasOut = line.size();
        int wrong = 0;
        for (int k = 0; k < rows.size() && wrong == 0; k++) {
            int[] row = rows.get(k);
            int fee = go(row[0]);
            boolean isLast = k == rows.size() - 1;
            if (fee < 0 || fee != row[2] || in() != row[1] || isLast && !mayNow().isEmpty()) {
                wrong = k + 1;
            }
        }
        while (line.size() > wasOut) {
            back();
        }
        return wrong;
    }

    // ---- the host

    private static final Class<?>[] SORTS =
        {byte.class, short.class, int.class, long.class, boolean.class};
    private static final Class<?>[] ROWS =
        {byte[].class, short[].class, int[].class, long[].class, boolean[].class};

    private static int refused(RuntimeException e) {
        if (e instanceof NullPointerException) {
            return -11;
        }
        if (e instanceof ArrayIndexOutOfBoundsException) {
            return -12;
        }
        if (e instanceof ClassCastException) {
            return -13;
        }
        if (e instanceof NegativeArraySizeException) {
            return -14;
        }
        if (e instanceof ArithmeticException) {
            return -15;
        }
        throw e;
    }

    public int sheet(int sheet, int sort, int n) {
        if (sheet < 0 || sheet > 3 || sort < -1 || sort > 4 || sort >= 0 && n > 40) {
            return BAD;
        }
        try {
            sheets[sheet] = sort < 0 ? null : Array.newInstance(SORTS[sort], n);
            return 1;
        } catch (RuntimeException e) {
            return refused(e);
        }
    }

    public int write(int sheet, int i, int v) {
        if (sheet < 0 || sheet > 3) {
            return BAD;
        }
        try {
            Object row = sheets[sheet];
            if (row instanceof byte[]) {
                ((byte[]) row)[i] = (byte) v;
            } else if (row instanceof short[]) {
                ((short[]) row)[i] = (short) v;
            } else if (row instanceof int[]) {
                ((int[]) row)[i] = v;
            } else if (row instanceof boolean[]) {
                ((boolean[]) row)[i] = v != 0;
            } else {
                ((long[]) row)[i] = v;
            }
            return 1;
        } catch (RuntimeException e) {
            return refused(e);
        }
    }

    public int item(int sheet, int sort, int i) {
        if (sheet < 0 || sheet > 3 || sort < 0 || sort > 4) {
            return BAD;
        }
        try {
            Object row = sheets[sheet];
            switch (sort) {
                case 0: return ((byte[]) row)[i];
                case 1: return ((short[]) row)[i];
                case 2: return ((int[]) row)[i];
                case 3: return (int) ((long[]) row)[i];
                default: return ((boolean[]) row)[i] ? 1 : 0;
            }
        } catch (RuntimeException e) {
            return refused(e);
        }
    }

    public int goes(int sheet, int i, int n) {
        if (sheet < 0 || sheet > 3 || n < 0 || n > 20) {
            return BAD;
        }
        try {
            byte[] row = (byte[]) sheets[sheet];
            int went = row.length * 0;
            for (int k = 0; k < n; k++) {
                went += go(row[i + k]) >= 0 ? 1 : 0;
            }
            return went;
        } catch (RuntimeException e) {
            return refused(e);
        }
    }

    public int goats(int sheet, int i, int n) {
        if (sheet < 0 || sheet > 3 || n < 0 || n > 9) {
            return BAD;
        }
        int wasOut = line.size();
        try {
            byte[] row = (byte[]) sheets[sheet];
            int goats = row.length * 0;
            for (int k = 0; k < n; k++) {
                int g = row[i + k];
                if (!isGood(g) || !isTop(g)) {
                    return STATE;
                }
                goats += mayNow().contains(g) ? 0 : 1;
                out(g);
            }
            return goats;
        } catch (RuntimeException e) {
            return refused(e);
        } finally {
            while (line.size() > wasOut) {
                back();
            }
        }
    }

    public int shelf(int shelf, int what, int n) {
        if (shelf < 0 || shelf > 3 || what < 0 || what > 2 || what == 0 && !isGood(n)
            || what == 1 && (n < 0 || n > 3)) {
            return BAD;
        }
        shelves[shelf] = what == 0 ? (Object) n : what == 1 ? sheets[n] : null;
        return 1;
    }

    private Object on(int shelf) {
        Object it = shelves[shelf];
        return it instanceof Integer ? isGood((Integer) it) ? thing((Integer) it) : null : it;
    }

    public int taken(int shelf, int as) {
        if (shelf < 0 || shelf > 3 || as < 0 || as > 14 || as > 5 && as < 10) {
            return BAD;
        }
        try {
            Object it = on(shelf);
            if (as >= 10) {
                return Array.getLength(ROWS[as - 10].cast(it));
            }
            Class<?>[] kinds =
                {Good0.class, Twin.class, Living.class, Goat.class, Sealed.class, Royal.class};
            return ((Good0) kinds[as].cast(it)).n;
        } catch (RuntimeException e) {
            return refused(e);
        }
    }

    private Good0 thing(int g) {
        Good0[] all = {new Good0(), new Twin(), new Living(), new Goat(), new Sealed(), new Royal()};
        Good0 it = all[goods.get(g).kind];
        it.n = g;
        it.a = goods.get(g).cloth;
        return it;
    }

    private class Good0 {
        int n, a;

        int weighs(int x) {
            trace.add(10);
            return x - n;
        }

        int turns(int x) {
            trace.add(11);
            return weighs(x) * 3;
        }

        int splits(int x) {
            trace.add(12);
            return x / (a - n);
        }

        int tells(int x) {
            trace.add(13);
            return turns(x) ^ a;
        }
    }

    private class Twin extends Good0 {
        @Override int weighs(int x) {
            trace.add(20);
            return super.weighs(x) * 2;
        }
    }

    private class Living extends Good0 {
        @Override int turns(int x) {
            trace.add(30);
            return super.turns(x) + a;
        }
    }

    private class Sealed extends Good0 {
        @Override int splits(int x) {
            trace.add(40);
            return super.splits(x - 1);
        }
    }

    private class Goat extends Living {
        @Override int weighs(int x) {
            trace.add(50);
            return super.weighs(x) ^ a;
        }

        @Override int tells(int x) {
            trace.add(51);
            return super.tells(x) - splits(n);
        }
    }

    private class Royal extends Sealed {
        @Override int turns(int x) {
            trace.add(60);
            return 0 - super.turns(x);
        }

        @Override int splits(int x) {
            trace.add(61);
            return super.splits(x) + weighs(a);
        }
    }

    public int act(int shelf, int act, int x) {
        trace.clear();
        if (shelf < 0 || shelf > 3 || act < 0 || act > 3 || !(on(shelf) instanceof Good0)) {
            return 0;
        }
        Good0 it = (Good0) on(shelf);
        try {
            switch (act) {
                case 0: return it.weighs(x);
                case 1: return it.turns(x);
                case 2: return it.splits(x);
                default: return it.tells(x);
            }
        } catch (RuntimeException e) {
            return refused(e);
        }
    }

    public int trace(int i) {
        return i < 0 || i >= Math.min(30, trace.size()) ? NONE : trace.get(i);
    }

    public int many(int what) {
        int[] all = {goods.size(), rules.size(), line.size(), reports.size(), rows.size(),
            tape.size(), Math.min(30, trace.size())};
        return what < 0 || what >= all.length ? BAD : all[what];
    }

    // ---- kept

    private void takeFrom(Model other) {
        goods = new ArrayList<>();
        for (Good it : other.goods) {
            Good copy = new Good(it.kind, it.bay, it.cloth, it.worth);
            copy.isIn = it.isIn;
            goods.add(copy);
        }
        line = new ArrayList<>(other.line);
        gap = other.gap;
        day = other.day;
        z = other.z;
        rules = other.rules;
        reports = new ArrayList<>(other.reports);
    }

    public int keep() {
        keptOne = new Model();
        keptOne.takeFrom(this);
        return 1;
    }

    public int again() {
        if (keptOne == null) {
            return NONE;
        }
        takeFrom(keptOne);
        return goods.size();
    }
}
