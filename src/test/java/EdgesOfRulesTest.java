import java.io.IOException;

/** The Terms' part 2, promises 7 and 8: THE TAPE, and THE RULES that it tells. */
public final class EdgesOfRulesTest {
    private static final int BAD = Edge.BAD, FULL = Edge.FULL;
    private static final String KINDS = "good twin living goat sealed royal", DO = "more less free",
        FACTS = "gap day cloth worth number", SIGNS = "< = >", NUMBERS = "0 7 999 1000 9999 0000 0999";
    // What may begin a ONE.
    private static final String ONE = "not ( " + FACTS + " " + NUMBERS;
    // Each state of a TEXT, and what can stand there ("end": it may end there).
    private static final String[][] STATES = {
        {"", KINDS + " end"},
        {"good", "if " + DO},
        {"good more", "0 7 999 0000 0999"},
        {"royal less", "0 7 999 0000 0999"},
        {"good more 5", ";"},
        {"good free", ";"},
        {"good free ;", KINDS + " end"},
        {"goat if", ONE},
        {"good if not", ONE},
        {"good if not not", ONE},
        {"good if (", ONE},
        {"good if ( (", ONE},
        {"good if ( ( (", "not " + FACTS + " " + NUMBERS},
        {"good if ( ( ( not", "not " + FACTS + " " + NUMBERS},
        {"good if ( ( ( 1 = 1 and", "not " + FACTS + " " + NUMBERS},
        {"good if ( ( ( 1 = 1 ) or", ONE},
        {"good if 1", SIGNS},
        {"good if worth", SIGNS},
        {"good if 1 =", FACTS + " " + NUMBERS},
        {"good if 1 <", FACTS + " " + NUMBERS},
        {"good if gap >", FACTS + " " + NUMBERS},
        {"good if 1 = 1", "and or " + DO},
        {"good if 1 = day", "and or " + DO},
        {"good if 1 = 1 and", ONE},
        {"good if 1 = 1 or", ONE},
        {"good if ( 1", SIGNS},
        {"good if ( 1 =", FACTS + " " + NUMBERS},
        {"good if ( 1 = 1", "and or )"},
        {"good if ( 1 = 1 and", ONE},
        {"good if ( 1 = 1 or", ONE},
        {"good if ( 1 = 1 )", "and or " + DO},
        {"good if ( 1 = 1 ) and", ONE},
        {"good if ( ( 1 = 1 )", "and or )"},
        {"good if ( ( ( 1 = 1", "and or )"},
        {"good if ( ( ( 1 = 1 )", "and or )"},
        {"good if ( ( ( 1 = 1 ) )", "and or )"},
        {"good if ( ( ( 1 = 1 ) ) )", "and or " + DO},
        {"good if 1 = 1 more", "0 7 999 0000 0999"},
        {"good if 1 = 1 less 7", ";"},
        {"good if 1 = 1 free", ";"},
        {"good if 1 = 1 free ;", KINDS + " end"},
        {"good free; ".repeat(7) + "goat free", ";"},
        {"good free; ".repeat(7) + "goat free;", "end"},
    };
    private static final String[] TOKENS = ("good twin living goat sealed royal if or and not more less"
        + " free gap day cloth worth number x goo goods kind fee iff < = > ( ) ; 0 7 999 1000 9999 0000"
        + " 0999 10000 00000 99999 12345678").split(" ");

    private final Edge e;

    private EdgesOfRulesTest(String[] args) throws IOException {
        e = new Edge("EdgesOfRulesTest", args);
    }

    public static void main(String[] args) throws IOException {
        EdgesOfRulesTest test = new EdgesOfRulesTest(args);
        test.termsOfTheTape();
        test.termsOfTheText();
        test.termsOfConditions();
        test.termsOfTokens();
        test.termsOfFaults();
        test.feed7();
        test.rules8();
        test.e.end();
    }

    /** A TEXT's answer: how many RULES, or -100 less its FAULT. */
    private static int answerTo(String text) {
        return Edge.told(new UnlikeNeighbours(), text);
    }

    private void counts(String text, int rules) {
        e.due("RULES of \"" + text + "\"", answerTo(text), rules);
    }

    private void faultAt(String text, int place) {
        e.due("FAULT of \"" + text + "\"", answerTo(text), -100 - place);
    }

    private void termsOfTheTape() {
        e.says(0, "2 THE RULES are a TEXT. THE TAPE takes bytes, 200 at most; rules() uses it up.");
        String blank = " ".repeat(200 - 10);
        UnlikeNeighbours x = new UnlikeNeighbours();
        Edge.feed(x, blank + "good free;");
        e.due("200 bytes", x.many(5), 200);
        e.due("one more", x.feed(' ', 1), FULL);
        e.due("all are read", x.rules(), 1);
        e.due("used up", x.many(5), 0);
        e.due("nothing is told", x.rules(), 0);
        Edge.feed(x, blank + "good free.");
        e.due("the 200th byte's FAULT", x.rules(), -299);
        e.due("used up, too", x.many(5), 0);
        Edge.feed(x, blank + "good  free");
        e.due("the end of 200", x.rules(), -300);
        Edge.feed(x, "good");
        Edge.feed(x, " free");
        Edge.feed(x, ";");
        e.due("as one row of bytes", x.rules(), 1);
        Edge.feed(x, "good free;good free;");
        e.due("more of them", x.rules(), 2);
        Edge.feed(x, "goat free;");
        e.due("what was there before is gone", x.rules(), 1);
    }

    private void termsOfTheText() {
        e.says(0, "TEXT: { KIND DO ; | KIND if COND DO ; }, 8 RULES at most.");
        for (int rules = 0; rules <= 8; rules++) {
            counts("good free;".repeat(rules), rules);
            counts("good if 1=1 free; ".repeat(rules), rules);
        }
        faultAt("good free;".repeat(9), 80);
        faultAt("good free;".repeat(8) + "x", 80);
        counts("good free;".repeat(8) + "  ", 8);
        counts("good if 1=1 free;good more 1;good if 1=1 less 1;", 3);

        e.says(0, "KIND: good | twin | living | goat | sealed | royal.");
        String[] kinds = KINDS.split(" ");
        int[] under = {31, 1, 6, 4, 24, 16};
        int[] fees = {5, 10, 8, 60, 120}, freeFees = {0, 0, 0, 50, 100};
        for (int kind = 0; kind < kinds.length; kind++) {
            UnlikeNeighbours x = Edge.kinds(1, 2, 3, 4, 5);
            e.due(kinds[kind], Edge.told(x, kinds[kind] + " free;"), 1);
            for (int g = 0; g < 5; g++) {
                int want = (under[kind] >> g & 1) == 1 ? freeFees[g] : fees[g];
                e.due(kinds[kind] + " free: FEE of " + g, x.goodOf(g, 4), want);
            }
            faultAt(kinds[kind].substring(1) + " free;", 0);
            faultAt(kinds[kind].substring(0, kinds[kind].length() - 1) + " free;", 0);
            faultAt(kinds[kind] + "s free;", 0);
        }

        e.says(0, "DO: more N | less N (0 to 999) | free.");
        for (String what : new String[] {"more ", "less "}) {
            for (int n : new int[] {0, 1, 9, 10, 99, 100, 998, 999}) {
                UnlikeNeighbours x = Edge.shed(2, 0, 0, 500);
                e.due(what + n, Edge.told(x, "good " + what + n + ";"), 1);
                int want = what.equals("more ") ? 500 + n : Math.max(0, 500 - n);
                e.due("FEE by " + what + n, x.goodOf(0, 4), want);
            }
            for (int n : new int[] {1000, 1001, 5000, 9999}) {
                faultAt("good " + what + n + ";", 10);
            }
            faultAt("good " + what + ";", 10);
            faultAt("good " + what + "-1;", 10);
        }
        faultAt("good free 0;", 10);
    }

    private void holds(String condition, boolean isSo) {
        // Good 1 of two: GAP 2, DAY 4, CLOTH 6, WORTH 500.
        UnlikeNeighbours x = Edge.shed(2, 0, 0, 1, 2, 0, 6, 500);
        x.let(0, 2);
        x.let(1, 4);
        e.due("rule of " + condition, Edge.told(x, "good if " + condition + " more 7;"), 1);
        e.due(condition, x.goodOf(1, 4), 540 + (isSo ? 7 : 0));
    }

    private void termsOfConditions() {
        e.says(0, "COND: ALL { or ALL } ALL: ONE { and ONE } ONE: { not } ( VALUE SIGN VALUE | \"(\" COND"
            + " \")\" ) VALUE: N | gap | day | cloth | worth | number SIGN: < | = | >");
        String[] is = {"1=2", "1=1"};
        for (int bits = 0; bits < 16; bits++) {
            boolean a = (bits & 1) != 0, b = (bits & 2) != 0, c = (bits & 4) != 0, d = (bits & 8) != 0;
            String p = is[bits & 1], q = is[bits >> 1 & 1], r = is[bits >> 2 & 1], s = is[bits >> 3];
            holds(p + " or " + q + " and " + r + " or " + s, a || b && c || d);
            holds(p + " and " + q + " or " + r + " and " + s, a && b || c && d);
            holds("(" + p + " or " + q + ") and (" + r + " or " + s + ")", (a || b) && (c || d));
            holds("not " + p + " and " + q + " or not " + r, !a && b || !c);
            holds("not (" + p + " and " + q + " or " + r + ") or " + s, !(a && b || c) || d);
            holds("not not " + p + " and not not not " + q, a && !b);
            holds(p + " or (" + q + " and (" + r + " or (not " + s + ")))", a || b && (c || !d));
            holds(p + " and " + q + " and " + r + " and " + s, a && b && c && d);
            holds(p + " or " + q + " or " + r + " or " + s, a || b || c || d);
        }
        for (int left = 0; left < 3; left++) {
            for (int right = 0; right < 3; right++) {
                holds(left + "<" + right, left < right);
                holds(left + "=" + right, left == right);
                holds(left + ">" + right, left > right);
            }
        }
        holds("gap<number or day<gap or cloth<day or worth<cloth", false);
        holds("number<gap and gap<day and day<cloth and cloth<worth", true);

        e.says(0, "N are NUMBERS 0 to 9999.");
        holds("0<1 and 9998<9999 and 9999>9998 and not 0>0 and 9999=9999 and 0=0", true);
        holds("worth<9999", true);
        holds("worth>0", true);
        faultAt("good if 0=10000 free;", 10);
        faultAt("good if 10000=0 free;", 8);
        faultAt("good if 0=-1 free;", 10);

        e.says(0, "FACTS: GAP, DAY; CLOTH, WORTH of the good as told, and its number.");
        holds("gap=2 and day=4 and cloth=6 and worth=500 and number=1", true);
        holds("worth=507", false);
        UnlikeNeighbours x = Edge.shed(5, 0, 0, 1, 5, 0, 9, 999);
        Edge.told(x, "good if gap=1 and day=0 and cloth=0 and worth=1 and number=0 more 1;");
        e.due("the least", x.goodOf(0, 4) * 1000 + x.goodOf(1, 4), 104000 + 2098);
        Edge.told(x, "good if gap=3 and day=9 and cloth=9 and worth=999 and number=1 more 1;");
        e.due("not yet", x.goodOf(1, 4), 2098);
        x.let(0, 3);
        e.due("not yet", x.goodOf(1, 4), 2098);
        x.let(1, 9);
        e.due("the greatest", x.goodOf(0, 4) * 10000 + x.goodOf(1, 4), 1020000 + 2100);
        x.change(1, 2, 8);
        e.due("by the CLOTH that it is told now", x.goodOf(1, 4), 2098);
        x.change(1, 2, 9);
        x.change(1, 3, 998);
        e.due("by the WORTH that it is told now", x.goodOf(1, 4), 2096);
        UnlikeNeighbours nine = Edge.all(2, 9);
        Edge.told(nine, "good if number=8 free;");
        e.due("the greatest number", nine.goodOf(7, 4) * 10 + nine.goodOf(8, 4), 100);
    }

    private void termsOfTokens() {
        e.says(0, "NAMES are rows of letters a to z, NUMBERS rows of digits (1 to 4), both as long as they"
            + " go;");
        counts("good more 1;good less 12;good more 123;", 3);
        counts("good more 0001;", 1);
        counts("good more5;", 1);
        counts("good if 1=1and 2=2or 3=3more5;good free;", 2);
        counts("good if not(1=1)free;goat if 1<gap and day>0or cloth=1 free;", 2);
        faultAt("goodfree;", 0);
        faultAt("good more5free;", 10);
        faultAt("goodif 1=1 free;", 0);
        faultAt("good if 1=1 andnot 1=1 free;", 12);
        faultAt("good if notgap=1 free;", 8);
        faultAt("good if 1=gapfree;", 10);
        faultAt("good if 1 2=1 free;", 10);
        faultAt("good more 12345;", 10);
        faultAt("good more 00005;", 10);
        faultAt("good more 1 2;", 12);
        faultAt("good more " + "0".repeat(190), 10);
        faultAt("a".repeat(200), 0);
        faultAt("gooD free;", 0);
        faultAt("good Free;", 5);
        for (char c : "`{AZ@[_-".toCharArray()) {
            faultAt("good" + c + "free;", 4);
            faultAt("good free" + c + ";", 9);
        }
        for (char c : "/:".toCharArray()) {
            faultAt("good more 1" + c + ";", 11);
        }
        for (int c = 'a'; c <= 'z'; c++) {
            faultAt("good" + (char) c + " free;", 0);
            faultAt((char) c + "good free;", 0);
            faultAt("good free;" + (char) c, 10);
        }
        for (int digit = 0; digit < 10; digit++) {
            UnlikeNeighbours x = Edge.shed(2, 0, 0, 1);
            Edge.told(x, "good more " + digit + digit + digit + ";");
            e.due("digit " + digit, x.goodOf(0, 4), 1 + 111 * digit);
        }

        e.says(0, "blanks (32) part them, and stand elsewhere as one likes.");
        counts("  good  if  (  not  gap  =  1  )  and  1  <  2  more  5  ;  ", 1);
        counts("good if(not gap=1)and 1<2 more 5;", 1);
        counts(" ".repeat(200), 0);
        faultAt("go od free;", 0);
        faultAt("good fr ee;", 5);
        faultAt("good more 1 0;", 12);
        for (int c = 0; c < 256; c++) {
            boolean isToken = c >= 'a' && c <= 'z' || c >= '0' && c <= '9';
            if (!isToken) {
                e.due("byte " + c + " for a blank", answerTo("good" + (char) c + "free;"), c == 32 ? 1 : -104);
                e.due("byte " + c + " behind all", answerTo("good free;" + (char) c), c == 32 ? 1 : -110);
                e.due("byte " + c + " alone", answerTo("" + (char) c), c == 32 ? 0 : -100);
            }
        }

        e.says(0, "At most 3 \"(\" are open within one another.");
        counts("good if (((1=1))) free;", 1);
        counts("good if (((1=1)) and ((1=1))) free;", 1);
        counts("good if (((1=1)))and(((1=1)))or(((1=1)))and(1=1) free;", 1);
        counts("good if (((1=1) or (2=2)) and (3=3)) free;good if (((1=1))) free;", 2);
        faultAt("good if ((((1=1)))) free;", 11);
        faultAt("good if (((1=1 and (2=2)))) free;", 19);
        faultAt("good if (((not (2=2)))) free;", 15);
        faultAt("good if (((1=1)) and ((2=2) or ((3=3)))) free;", 32);
        counts("good if (1=1) and (1=1) and (1=1) and (1=1) and (1=1) free;", 1);
    }

    private void termsOfFaults() {
        e.says(0, "FAULT: the place (from 0) of the first byte of the first NAME, NUMBER or other byte"
            + " that can't stand there");
        for (String[] state : STATES) {
            String ahead = state[0].isEmpty() ? "" : state[0] + " ";
            String can = " " + state[1] + " ";
            for (String token : TOKENS) {
                int answer = answerTo(ahead + token);
                boolean isFault = answer == -100 - ahead.length();
                e.due("\"" + ahead + token + "\" answered " + answer + "; a FAULT at its last token",
                    isFault ? 1 : 0, can.contains(" " + token + " ") ? 0 : 1);
            }
            for (int c = 0; c < 256; c++) {
                if (c != 32 && "<=>();".indexOf(c) < 0 && !(c >= '0' && c <= '9')) {
                    faultAt(ahead + (char) c, ahead.length());
                    faultAt(ahead + (char) c + " good free;", ahead.length());
                }
            }
        }
        for (String each : new String[] {";", "(", ")", "<", "=", ">", "x", "7", "!"}) {
            // Two hundred tokens, or one.
            faultAt(each.repeat(200), 0);
        }
        faultAt("good if 1=1" + ")".repeat(189), 11);
        faultAt("   good   more   more", 17);
        faultAt("good free; good x; y", 16);

        e.says(0, "(a NUMBER of more digits, N above 999 behind more or less, the fourth \"(\", the first"
            + " NAME of the ninth RULE, too)");
        faultAt("good if 12345=1 free;", 8);
        faultAt("good if 1=00001 free;", 10);
        faultAt("good more 1000;", 10);
        faultAt("good less 1000;", 10);
        faultAt("good if 1=1 less 9999", 17);
        faultAt("good if 1000=9999 free; good", 28);
        faultAt("good if ( ( ( (", 14);
        faultAt("good free;".repeat(8) + "  royal more 5;", 82);
        faultAt("good free;".repeat(8) + "royal", 80);
        faultAt("good free;".repeat(8) + "free", 80);
        faultAt("good free;".repeat(8) + "good more 1000;", 80);

        e.says(0, "or the end (how many bytes there are), if more must come.");
        for (String[] state : STATES) {
            boolean mayEnd = (" " + state[1] + " ").contains(" end ");
            int rules = (int) state[0].chars().filter(c -> c == ';').count();
            for (String behind : new String[] {"", " ", "   "}) {
                String text = state[0] + behind;
                e.due("the end of \"" + text + "\"", answerTo(text), mayEnd ? rules : -100 - text.length());
            }
            if (!mayEnd && !state[0].isEmpty()) {
                String full = " ".repeat(200 - state[0].length()) + state[0];
                faultAt(full, 200);
            }
        }
    }

    private void feed7() {
        e.says(7, "n bytes (1 to 8) come to THE TAPE, the lowest of eight first: how many it has.");
        UnlikeNeighbours x = new UnlikeNeighbours();
        int size = 0;
        for (int n = 1; n <= 8; n++) {
            size += n;
            e.due("feed", x.feed(0x2020202020202020L, n), size);
            e.due("many", x.many(5), size);
        }
        x.rules();
        // From the lowest byte up: "good fre", then "e;" and what is not to come.
        e.due("eight", x.feed(0x65726620646f6f67L, 8), 8);
        e.due("two of eight", x.feed(0x7878787878783b65L, 2), 10);
        e.due("their RULE", x.rules(), 1);
        for (int n = 1; n <= 8; n++) {
            // The n-th byte is the only one that is no blank.
            long eight = 0x2020202020202020L & ~(255L << 8 * (n - 1));
            x.feed(eight, n);
            e.due("byte " + n + " of " + n, x.rules(), -100 - (n - 1));
            x.feed(eight, Math.max(1, n - 1));
            e.due("byte " + n + " of fewer", x.rules(), n == 1 ? -100 : 0);
        }
        x.feed(-1L, 8);
        e.due("bytes above 127", x.rules(), -100);
        x.feed(Long.MIN_VALUE | 0x20202020202020L, 8);
        e.due("the highest bit", x.rules(), -107);

        e.says(7, "BAD; FULL: more than 200.");
        e.outside("n", n -> x.feed(0x2020202020202020L, n), 1, 8, BAD);
        e.due("none came", x.many(5), 0);
        for (int least = 1; least <= 8; least++) {
            UnlikeNeighbours y = new UnlikeNeighbours();
            Edge.feed(y, " ".repeat(200 - least));
            for (int n = 8; n > least; n--) {
                e.due("too many by " + (n - least), y.feed('x', n), FULL);
            }
            e.due("none of them came", y.many(5), 200 - least);
            e.due("as many as there is room for", y.feed(0x2020202020202020L, least), 200);
            e.due("one more", y.feed('x', 1), FULL);
            e.outside("n with THE TAPE full", n -> y.feed('x', n), 1, 8, BAD);
            e.due("nothing but blanks", y.rules(), 0);
            e.due("room again", y.feed(' ', 1), 1);
        }
    }

    private void rules8() {
        e.says(8, "THE TAPE tells THE RULES (in place of all): how many;");
        UnlikeNeighbours x = Edge.shed(2, 0, 0, 10, 4, 0, 0, 10);
        e.due("an empty TAPE", x.rules(), 0);
        e.due("two", Edge.told(x, "living more 1; sealed more 2;"), 2);
        e.due("FEES", x.goodOf(0, 4) * 100 + x.goodOf(1, 4), 1162);
        e.due("one in place of two", Edge.told(x, "living more 5;"), 1);
        e.due("FEES", x.goodOf(0, 4) * 100 + x.goodOf(1, 4), 1560);
        e.due("many", x.many(1), 1);
        e.due("eight", Edge.told(x, "goat free;".repeat(7) + "good free;"), 8);
        e.due("FEES by the eighth", x.goodOf(0, 4) * 100 + x.goodOf(1, 4), 50);
        e.due("many", x.many(1), 8);
        e.due("an empty TAPE in place of eight", x.rules(), 0);
        e.due("FEES by none", x.goodOf(0, 4) * 100 + x.goodOf(1, 4), 1060);
        e.due("conditions, too", Edge.told(x, "good if 1=2 free; good if 1=1 and number=1 more 3;"), 2);
        e.due("FEES", x.goodOf(0, 4) * 100 + x.goodOf(1, 4), 1063);
        e.due("conditions in place of those", Edge.told(x, "good if not 1=2 more 1;"), 1);
        e.due("FEES", x.goodOf(0, 4) * 100 + x.goodOf(1, 4), 1161);
        // As many comparisons as 200 bytes can hold, with as many "not" and "and" as go.
        String longest = "good if " + "1=1or ".repeat(29) + "1=2 free;";
        e.due("the most comparisons", Edge.told(x, longest), 1);
        e.due("FEES", x.goodOf(0, 4) * 100 + x.goodOf(1, 4), 50);
        longest = "good if " + "1=2or ".repeat(30) + "1=1free;";
        e.due("how long", longest.length() <= 200 ? 1 : 0, 1);
        e.due("the most comparisons", Edge.told(x, longest), 1);
        e.due("FEES by the last of them", x.goodOf(0, 4) * 100 + x.goodOf(1, 4), 50);
        longest = "good if " + "not ".repeat(45) + "1=1 free;";
        e.due("the most nots", Edge.told(x, longest), 1);
        e.due("FEES", x.goodOf(0, 4) * 100 + x.goodOf(1, 4), 1060);

        e.says(8, "-100 less its FAULT.");
        e.due("a RULE", Edge.told(x, "good more 1;"), 1);
        e.due("FAULT 0", Edge.told(x, "x"), -100);
        e.due("FAULT 12 behind a RULE", Edge.told(x, "good free;  ;"), -112);
        e.due("FAULT 200", Edge.told(x, "good" + " ".repeat(196)), -300);
        e.due("THE RULES stay", x.many(1), 1);
        e.due("FEES stay", x.goodOf(0, 4) * 100 + x.goodOf(1, 4), 1161);
        e.due("THE TAPE doesn't", x.many(5), 0);
    }
}
