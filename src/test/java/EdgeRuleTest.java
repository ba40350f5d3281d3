/** The edges of the RULES' language, of its FAULTS, and of promises 5 and 6. */
public final class EdgeRuleTest {
    /** The least of all numbers: 2 to the 63 goes round to it. */
    private static final String LEAST = "65536 * 65536 * 65536 * 32768";
    private static final String TEN_OPEN = "[".repeat(10);
    private static final String TEN_SHUT = "]".repeat(10);
    private static final String TEN_NOT = "not ".repeat(10);

    private EdgeRuleTest() {
    }

    public static void main(String[] args) {
        fourHundredBytes();
        clausesJoined();
        twelveClauses();
        thirteenthClause();
        withoutATest();
        orOfParts();
        andOfFacts();
        notOfAFact();
        brackets();
        signs();
        otherSigns();
        sumsGoAlong();
        termsGoAlong();
        noSignAhead();
        fiveDigits();
        sixDigits();
        wordsGoOn();
        wordsOfTell();
        wordsOfWeigh();
        towardsZero();
        byZero();
        goesRound();
        blanksBetween();
        blanksWithin();
        tenDeep();
        elevenDeep();
        besideOneAnother();
        sixtyParts();
        sixtyFirstValue();
        sixtyFirstFact();
        bytesThatCantStand();
        fourHundredTimesAByte();
        theEnd();
        theFirstFault();
        theLeastOfOnePlace();
        sixRules();
        seventhRule();
        faultIsNoRule();
        afterManyFaults();
        forced();
        forcedNone();
        noSuchRule();
        Check.finish();
    }

    private static void good(String text) {
        Check.due("rule \"" + text + "\"", Check.rule(new OneMirror(), text), 0);
    }

    /** The fault is at the first byte of what was put behind. */
    private static void badBehind(String text, String behind, int kind) {
        Check.ruleFault(text + behind, text.length(), kind);
    }

    /** What person 2 tells person 0 of person 1 by a rule in HOUR 3: their FACE is 37, of 64. */
    private static void tells(String rule, int face) {
        OneMirror m = Check.withIsland("marks 6;person 9 0;person 37 0;person 2 0;tie 0 2 4;tie 2 0 6");
        m.rest();
        m.rest();
        m.rest();
        Check.due("rule \"" + rule + "\"", Check.rule(m, rule), 0);
        m.tell(0, 2, 0, 1);
        Check.due("told by \"" + rule + "\"", m.telling(0, 3), face);
    }

    private static void holds(String test, boolean does) {
        tells("tell 1 if " + test, does ? 1 : 37);
    }

    private static void fourHundredBytes() {
        Check.sentence("I: RULES: texts likewise (at most 400 bytes)");
        good("tell 1" + " ".repeat(394));
        good(" ".repeat(394) + "tell 1");
        badBehind("tell 1" + " ".repeat(393), "x", 0);
    }

    private static void clausesJoined() {
        Check.sentence("I: RULES: texts likewise (CLAUSE { ; CLAUSE })");
        good("tell 1;weigh 1");
        badBehind("tell 1 ", "weigh 1", 0);
        badBehind("tell 1;", "", 0);
        badBehind("tell 1;", ";weigh 1", 0);
        badBehind("", ";tell 1", 0);
        badBehind("tell 1 if 1=1 ", "tell 1", 0);
    }

    private static void twelveClauses() {
        Check.sentence("I: 12 CLAUSES at most");
        good("tell 1;".repeat(11) + "weigh 1");
        good("weigh 1;".repeat(11) + "tell 1 if 1=1");
        tells("tell 1 if 1=2;".repeat(11) + "tell 3", 3);
    }

    private static void thirteenthClause() {
        Check.sentence("I, FAULTS: 4 one CLAUSE too many (at its first byte)");
        badBehind("tell 1;".repeat(12), "tell 1", 4);
        badBehind("tell 1;".repeat(12), "weigh 1", 4);
        badBehind("weigh 1;".repeat(12) + "  ", "weigh", 4);
    }

    private static void withoutATest() {
        Check.sentence("I: tell SUM [ if TEST ] | weigh SUM [ if TEST ]");
        tells("tell 5", 5);
        tells("tell 5 if 1 = 1", 5);
        badBehind("tell 5 if", "", 0);
        badBehind("weigh 5 if ", ";tell 1", 0);
        badBehind("tell ", "if 1 = 1", 0);
        badBehind("weigh ", "if 1 = 1", 0);
        badBehind("tell 1 if 1=1 ", "if 1=1", 0);
    }

    private static void orOfParts() {
        Check.sentence("I: TEST: PART { or PART }");
        holds("1=2 or 1=2 or 1=1", true);
        holds("1=1 or 1=2 or 1=2", true);
        holds("1=2 or 1=2 or 1=2", false);
        badBehind("tell 1 if ", "or 1=1", 0);
        badBehind("tell 1 if 1=1 or", "", 0);
        badBehind("tell 1 if 1=1 or ", "or 1=1", 0);
    }

    private static void andOfFacts() {
        Check.sentence("I: PART: FACT { and FACT }");
        holds("1=1 and 1=1 and 1=1", true);
        holds("1=1 and 1=1 and 1=2", false);
        holds("1=2 and 1=1 and 1=1", false);
        holds("1=1 or 1=1 and 1=2", true);
        holds("1=2 and 1=1 or 1=1", true);
        holds("1=2 and 1=2 or 1=2 and 1=1", false);
        badBehind("tell 1 if ", "and 1=1", 0);
        badBehind("tell 1 if 1=1 and", "", 0);
        badBehind("tell 1 if 1=1 and ", "or 1=1", 0);
    }

    private static void notOfAFact() {
        Check.sentence("I: FACT: not FACT");
        holds("not 1=2", true);
        holds("not 1=1", false);
        holds("not not 1=1", true);
        holds("not 1=1 or 1=1", true);
        holds("not 1=2 and 1=2", false);
        holds("not [1=2 and 1=2]", true);
        badBehind("tell 1 if not", "", 0);
        badBehind("tell 1 if not ", "and 1=1", 0);
        badBehind("tell 1 if 1=1 ", "not 1=1", 0);
        badBehind("tell ", "not 1", 0);
    }

    private static void brackets() {
        Check.sentence("I: FACT: [ TEST ] (these brackets are signs)");
        holds("[1=1 or 1=1] and 1=2", false);
        holds("1=2 and [1=2 or 1=1]", false);
        holds("[[1=1]]", true);
        badBehind("tell 1 if [1=1", "", 0);
        badBehind("tell 1 if [1=1 ", ";tell 1", 0);
        badBehind("tell 1 if 1=1", "]", 0);
        badBehind("tell 1 if [1=1]", "]", 0);
        badBehind("tell 1 if [", "]", 0);
        badBehind("tell 1 if [1=1] ", "= 1", 0);
        badBehind("tell ", "[1]", 0);
        badBehind("tell 1 if 1 = ", "[1]", 0);
        badBehind("tell 1 if [1", "]", 0);
        badBehind("tell 1 if ", "(1=1)", 0);
        badBehind("tell 1 if [1=1] ", "[1=1]", 0);
    }

    private static void signs() {
        Check.sentence("I: SIGN one of < <= = >= >");
        String[] signs = {"<", "<=", "=", ">=", ">"};
        boolean[][] due = {{true, true, false, false, false}, {false, true, true, true, false},
            {false, false, false, true, true}};
        for (int i = 0; i < 5; i++) {
            holds("2 " + signs[i] + " 3", due[0][i]);
            holds("3 " + signs[i] + " 3", due[1][i]);
            holds("4 " + signs[i] + " 3", due[2][i]);
            holds("0-1" + signs[i] + "0", due[0][i]);
        }
    }

    private static void otherSigns() {
        Check.sentence("I: SIGN one of < <= = >= >");
        badBehind("tell 1 if 1 =", "= 1", 0);
        badBehind("tell 1 if 1 =", "< 1", 0);
        badBehind("tell 1 if 1 =", "> 1", 0);
        badBehind("tell 1 if 1 <", "> 1", 0);
        badBehind("tell 1 if 1 <", "< 1", 0);
        badBehind("tell 1 if 1 <=", "= 1", 0);
        badBehind("tell 1 if 1 ", "!= 1", 0);
        badBehind("tell 1 if 1 < 2 ", "< 3", 0);
        badBehind("tell 1 if 1 ", "", 0);
        badBehind("tell 1 if hour ", "and 1=1", 0);
        badBehind("tell 1 ", "= 1", 0);
    }

    private static void sumsGoAlong() {
        Check.sentence("I: SUM: TERM { (+ or -) TERM }");
        tells("tell 20 - 5 - 3", 12);
        tells("tell 20 - 5 + 3", 18);
        tells("tell 20 + 5 - 3 - 2", 20);
        badBehind("tell 1 +", "", 0);
        badBehind("tell 1 - ", "+ 1", 0);
    }

    private static void termsGoAlong() {
        Check.sentence("I: TERM: VALUE { (* or / or %) VALUE }");
        tells("tell 60 / 5 / 3", 4);
        tells("tell 60 / 5 * 3", 36);
        tells("tell 29 % 10 % 5", 4);
        tells("tell 7 * 5 % 4", 3);
        tells("tell 2 + 3 * 4", 14);
        tells("tell 30 - 2 * 3 - 10 / 2 - 7 % 4", 16);
        badBehind("tell 1 *", "", 0);
        badBehind("tell 1 / ", "% 1", 0);
        badBehind("tell 1 * ", "- 1", 0);
    }

    private static void noSignAhead() {
        Check.sentence("I: VALUE: NUMBER | WORD");
        badBehind("tell ", "-1", 0);
        badBehind("tell ", "+1", 0);
        badBehind("tell 1 if ", "-1 < 0", 0);
        badBehind("tell 1 if 0 > ", "-1", 0);
        badBehind("tell ", "*1", 0);
    }

    private static void fiveDigits() {
        Check.sentence("I: NUMBER (1 to 5 digits, as far as digits go on)");
        tells("tell 0", 0);
        tells("tell 9", 9);
        tells("tell 00009", 9);
        holds("99999 = 100 * 1000 - 1", true);
        holds("12345 = 12 * 1000 + 345", true);
        badBehind("tell 1", "face", 0);
        badBehind("tell 1 ", "2", 0);
    }

    private static void sixDigits() {
        Check.sentence("I, FAULTS: 1 a NUMBER of more digits");
        badBehind("tell ", "100000", 1);
        badBehind("weigh ", "000000", 1);
        badBehind("tell 1 + ", "000001", 1);
        badBehind("tell 1 * ", "4294967297", 1);
        badBehind("tell 1 if ", "000001 = 1", 1);
        badBehind("tell 1 if 1 = ", "000001", 1);
        badBehind("tell ", "9".repeat(395), 1);
    }

    private static void wordsGoOn() {
        Check.sentence("I: WORDS (small letters, as far as these go on)");
        for (String word : new String[] {"faces", "fac", "Face", "hourface", "tellers", "offf", "o", "ti", "step", "move",
            "marks", "person", "boat", "glass", "tell", "weigh", "if", "or", "and", "not"}) {
            badBehind("tell ", word, 0);
        }
        badBehind("tell ", "facE", 0);
        badBehind("tell face", "E", 0);
        badBehind("", "tellface", 0);
        badBehind("", "tells 1", 0);
        badBehind("", "Tell 1", 0);
        badBehind("", "weig 1", 0);
        badBehind("", "person 0 0", 0);
        badBehind("tell 1 ", "iff 1=1", 0);
        badBehind("tell 1 ", "If 1=1", 0);
        badBehind("tell 1 if 1=1 ", "orr 1=1", 0);
        badBehind("tell 1 if 1=1 ", "andnot 1=1", 0);
        badBehind("tell 1 if ", "nott 1=1", 0);
        for (char letter = 'a'; letter <= 'z'; letter++) {
            badBehind("", "weigh" + letter + " 1", 0);
            badBehind("tell ", "face" + letter, 0);
            badBehind("tell 1 ", "if" + letter + " 1=1", 0);
            badBehind("tell 1", String.valueOf(letter), 0);
        }
        good("tell face if1=1or[2=2]and not3=3");
    }

    private static void wordsOfTell() {
        Check.sentence("I: for tell: tie (of the hearer to the teller, 0 without), moved (0), steps (0)");
        tells("tell tie", 4);
        tells("tell moved", 0);
        tells("tell steps", 0);
        tells("tell teller * 10 + hearer", 20);
        tells("tell of * 10 + hour", 13);
        tells("tell face - 1", 36);
        OneMirror m = Check.withIsland("marks 3;person 5 0;person 2 0;tie 1 0 7");
        Check.rule(m, "tell tie");
        m.tell(0, 0, 1, 0);
        m.tell(0, 1, 0, 0);
        Check.due("1 heeds 0", m.telling(0, 3), 7);
        Check.due("without", m.telling(1, 3), 0);
        Check.rule(m, "tell moved + steps");
        m.retell(0, 0, 0);
        m.person(0, 4);
        m.tell(1, 1, 0, 0);
        Check.due("0 still, though one was weighed that has moved and was retold", m.telling(3, 3), 0);
    }

    private static void wordsOfWeigh() {
        Check.sentence("I: for weigh: face (as told), tie, moved (HOURS since), steps (how often it was RETOLD ahead of it)");
        String[] rules = {"weigh teller", "weigh hearer", "weigh of", "weigh hour", "weigh face", "weigh tie", "weigh moved",
            "weigh steps"};
        int[] first = {2, 1, 1, 5, 3, 8, 5, 0};
        int[] retold = {2, 1, 1, 5, 1, 8, 3, 2};
        OneMirror m = Check.withIsland("marks 2;person 0 0;person 3 0;person 0 0;tie 1 2 8");
        m.tell(-1, 2, 1, 1);
        m.retell(0, 2, 0);
        m.retell(1, 1, 2);
        m.rest();
        m.rest();
        for (int i = 0; i < 6; i++) {
            Check.rule(m, rules[i]);
        }
        OneMirror other = Check.withIsland("marks 2;person 0 0;person 3 0;person 0 0;tie 1 2 8");
        other.tell(-1, 2, 1, 1);
        other.retell(0, 2, 0);
        other.retell(1, 1, 2);
        other.rest();
        other.rest();
        Check.rule(other, rules[6]);
        Check.rule(other, rules[7]);
        for (int i = 0; i < 8; i++) {
            OneMirror on = i < 6 ? m : other;
            on.force(i % 6);
            Check.due(rules[i] + " of both, for mark 0", on.sum(1, 0), first[i] + retold[i]);
            Check.due(rules[i] + " of both, for mark 1", on.sum(1, 1), first[i] - retold[i]);
        }
    }

    private static void towardsZero() {
        Check.sentence("I: / is towards 0, % its rest");
        tells("tell 17 / 5", 3);
        tells("tell 17 % 5", 2);
        tells("tell 4 / 5", 0);
        tells("tell 4 % 5", 4);
        // -32768 by 20000: -1, and the rest -12768
        String low = LEAST + " / 65536 / 65536 / 65536";
        holds(low + " = 0 - 32768", true);
        tells("tell 9 + " + low + " / 20000", 8);
        holds(low + " % 20000 = 0 - 12768", true);
    }

    private static void byZero() {
        Check.sentence("I: both 0 by 0");
        tells("tell 9 / 0 + 3", 3);
        tells("tell 9 % 0 + 3", 3);
        tells("tell 0 / 0 + 3", 3);
        tells("tell 0 % 0 + 3", 3);
        tells("tell 9 / moved + 3", 3);
        tells("tell 9 % steps + 3", 3);
    }

    private static void goesRound() {
        Check.sentence("I: all goes round in 64 bits");
        tells("tell 65536 * 65536 * 65536 * 65536 + 5", 5);
        holds(LEAST + " < 0", true);
        holds(LEAST + " - 1 > 0", true);
        holds(LEAST + " - 1 + 1 < 0", true);
        holds(LEAST + " + " + LEAST + " = 0", true);
        holds("0 - " + LEAST + " < 0", true);
        tells("tell " + LEAST, 0);
        tells("tell " + LEAST + " - 1", 63);
    }

    private static void blanksBetween() {
        Check.sentence("I: Blanks (32) stand between as one likes");
        tells("  tell   4  +  3   if  [  1  <=  1  ]   or  not  1  =  1  ;  weigh  1  ", 7);
        tells("tell4+3if[1<=1]or not1=1;weigh1", 7);
        badBehind("tell", "\t1", 0);
        badBehind("tell 1", "\n", 0);
        badBehind("tell 1 ", "\0", 0);
        badBehind("tell ", "\u00a01", 0);
    }

    private static void blanksWithin() {
        Check.sentence("I: Blanks stand between");
        badBehind("", "te ll 1", 0);
        badBehind("tell ", "fa ce", 0);
        badBehind("tell 1 ", "0", 0);
        badBehind("tell 1 if 1 < ", "= 1", 0);
        badBehind("tell 1 if 1 > ", "= 1", 0);
    }

    private static void tenDeep() {
        Check.sentence("I: [ and not lie within one another 10 deep at most");
        holds(TEN_OPEN + "1=1" + TEN_SHUT, true);
        holds(TEN_NOT + "1=1", true);
        holds("not [".repeat(5) + "1=1" + "]".repeat(5), false);
        holds("[ not ".repeat(5) + "1=2" + "]".repeat(5), true);
    }

    private static void elevenDeep() {
        Check.sentence("I, FAULTS: 2 too deep (at the sign that opens, or the word not)");
        badBehind("tell 1 if " + TEN_OPEN, "[1=1]" + TEN_SHUT, 2);
        badBehind("tell 1 if " + TEN_OPEN + " ", "not 1=1" + TEN_SHUT, 2);
        badBehind("tell 1 if " + TEN_NOT, "not 1=1", 2);
        badBehind("tell 1 if " + TEN_NOT, "[1=1]", 2);
        badBehind("tell 1 if " + "not[".repeat(5), "[", 2);
        badBehind("tell 1 if " + "[not ".repeat(5), "not", 2);
        badBehind("weigh 1 if 1=1 and " + TEN_OPEN + "1=1 or ", "[", 2);
        badBehind("tell 1 if " + TEN_OPEN, "[".repeat(380), 2);
    }

    private static void besideOneAnother() {
        Check.sentence("I: [ and not lie within one another");
        good("tell 1 if " + TEN_OPEN + "1=1" + TEN_SHUT + " and " + TEN_OPEN + "1=1" + TEN_SHUT);
        good("tell 1 if " + TEN_NOT + "1=1 or " + TEN_NOT + "1=1");
        good("tell 1 if " + TEN_NOT + "1=1;tell 1 if " + TEN_OPEN + "1=1" + TEN_SHUT);
        good("tell 1 if [" + "[1=1] or ".repeat(11) + "1=1]");
        badBehind("tell 1 if " + TEN_OPEN + "1=1]" + "or [1=1] or [1=1 and ", "[1=1", 2);
    }

    /** So many VALUES of one SUM. */
    private static String values(int n) {
        return "1" + "+1".repeat(n - 1);
    }

    /** FACTS of two VALUES and a SIGN each. */
    private static String facts(int n) {
        return "1=1" + " and 1=1".repeat(n - 1);
    }

    private static void sixtyParts() {
        Check.sentence("I: at most 60 VALUES (of SUMS) and FACTS made of a SIGN, together");
        tells("tell " + values(60), 60);
        good("tell " + values(59) + ";weigh face");
        good("tell " + values(30) + " if " + facts(10));
        good("tell " + values(3) + " if " + facts(19));
        good("tell " + values(5) + ";weigh 1 if " + facts(18));
        // not and brackets are not counted
        holds("[not not [" + facts(19) + "]]", true);
        good("tell " + values(3) + " if [not not [" + facts(19) + "]]");
    }

    private static void sixtyFirstValue() {
        Check.sentence("I, FAULTS: 3 one VALUE too many (at its first byte)");
        badBehind("tell " + values(60) + "+", "1", 3);
        badBehind("tell " + values(60) + " * ", "12345", 3);
        badBehind("tell " + values(60) + "-", "face", 3);
        badBehind("tell " + values(60) + ";weigh ", "1", 3);
        badBehind("tell " + values(60) + " if ", "1=1", 3);
        badBehind("tell " + values(58) + " if 1=", "1", 3);
        badBehind("tell " + values(3) + " if " + facts(19) + " and ", "1=1", 3);
        badBehind("tell " + values(1) + " if " + facts(19) + " and 1=", "1", 3);
    }

    private static void sixtyFirstFact() {
        Check.sentence("I, FAULTS: 3 one FACT too many (of a FACT at its SIGN)");
        for (String sign : new String[] {"<", "<=", "=", ">=", ">"}) {
            badBehind("tell 1+1 if " + facts(19) + " and 1 ", sign + " 1", 3);
        }
        badBehind("tell " + values(59) + " if 1", "=1", 3);
        badBehind("tell " + values(58) + " if 1 + 1 ", "<= 1", 3);
    }

    private static void bytesThatCantStand() {
        Check.sentence("I, FAULTS: 0 a byte that can't stand there");
        for (int sign = 0; sign < 256; sign++) {
            char c = (char) sign;
            boolean isLetterOrDigit = c >= 'a' && c <= 'z' || c >= '0' && c <= '9';
            if (c != ' ') {
                badBehind("", c + " ", 0);
            }
            if (!isLetterOrDigit && c != ' ') {
                badBehind("tell ", c + "1", 0);
            }
            if (!isLetterOrDigit && c != ' ' && c != '[') {
                badBehind("tell 1 if ", c + "1=1", 0);
            }
            if (!isLetterOrDigit && " ;+-*/%".indexOf(c) < 0) {
                badBehind("tell 1 ", c + "1", 0);
                badBehind("tell 1 if 1=1 ", c + "1", 0);
            }
        }
    }

    private static void fourHundredTimesAByte() {
        Check.sentence("I, FAULTS: 0 a byte or WORD that can't stand there, or the end");
        for (int sign = 0; sign < 256; sign++) {
            Check.ruleFault(String.valueOf((char) sign).repeat(400), sign == ' ' ? 400 : 0, 0);
        }
    }

    private static void theEnd() {
        Check.sentence("I, FAULTS: 0 the end (behind the last byte)");
        for (String text : new String[] {"", "  ", "tell", "weigh  ", "tell 1 +", "tell 1 if", "tell 1 if not", "tell 1 if [",
            "tell 1 if hour", "tell 1 if hour <", "tell 1 if 1=1 or", "tell 1 if 1=1 and ", "tell 1 if [1=1", "tell 1;",
            "tell 1; "}) {
            badBehind(text, "", 0);
        }
        badBehind("tell" + " ".repeat(396), "", 0);
    }

    private static void theFirstFault() {
        Check.sentence("I, FAULTS: the first along the text, 1 + 8 * its place and its kind");
        Check.due("kind 0 at 0", Check.rule(new OneMirror(), "x"), -3);
        Check.due("kind 1 at 5", Check.rule(new OneMirror(), "tell 123456 x"), -2 - (1 + 40 + 1));
        Check.due("kind 2 at 20", Check.rule(new OneMirror(), "tell 1 if [[[[[[[[[[["), -2 - (1 + 160 + 2));
        Check.due("kind 3 at 125", Check.rule(new OneMirror(), "tell " + values(61)), -2 - (1 + 1000 + 3));
        Check.due("kind 4 at 84", Check.rule(new OneMirror(), "tell 1;".repeat(13)), -2 - (1 + 672 + 4));
        badBehind("tell 1 if 1=", "x and " + "[".repeat(20), 0);
        badBehind("tell ", "123456" + "+1".repeat(90), 1);
    }

    private static void theLeastOfOnePlace() {
        Check.sentence("I, FAULTS: Of one place the least");
        badBehind("tell " + values(60) + "+", "123456", 1);
        badBehind("tell " + values(60) + "+", "faces", 0);
        badBehind("tell " + values(60) + "+", "", 0);
        badBehind("tell " + values(59) + " if 1 ", "or", 0);
        badBehind("tell 1;".repeat(12), "tel 1", 0);
        badBehind("tell 1;".repeat(12), "", 0);
        badBehind("tell 1 ", "123456", 0);
    }

    private static void sixRules() {
        Check.sentence("P5: RULES 0 to 5: its number");
        OneMirror m = Check.withIsland("marks 3;person 0 0;person 7 0");
        for (int i = 0; i < 6; i++) {
            Check.due("rule", Check.rule(m, "tell " + (i + 1)), i);
            Check.due("RULES", m.count(2), i + 1);
            Check.due("the TAPE is empty then", m.count(11), 0);
        }
        for (int i = 0; i < 6; i++) {
            m.tell(i, 0, 1, 1);
            Check.due("by RULE " + i, m.telling(i, 3), i + 1);
        }
    }

    private static OneMirror withSix() {
        OneMirror m = Edge.rich();
        for (int i = 2; i < 6; i++) {
            Check.rule(m, "tell " + i);
        }
        return m;
    }

    private static void seventhRule() {
        Check.sentence("P5: NONE, and nothing happens: there are 6");
        for (String text : new String[] {"tell 7", "tell", "", "marks 2;person 3 1"}) {
            Edge.nothing(() -> {
                OneMirror m = withSix();
                Check.put(m, text);
                return m;
            }, "a seventh, \"" + text + "\"", OneMirror::rule, -1);
        }
    }

    private static void faultIsNoRule() {
        Check.sentence("P5: The TAPE, which is empty then; -2 - its FAULT");
        for (String text : new String[] {"", "tell", "tell 1;tell 2;weigh 5 if 1=1 or", "marks 2;person 3 1"}) {
            OneMirror m = Edge.rich();
            Check.due("a FAULT", Check.rule(m, text) < -2, true);
            Check.due("RULES", m.count(2), 2);
            Edge.alike("rule \"" + text + "\"",
                () -> Edge.with(Edge::rich, n -> Check.rule(n, text)),
                () -> Edge.with(Edge::rich, n -> n.end(0)));
            Check.due("the next one has the number", Check.rule(m, "tell 6"), 2);
            m.tell(2, 0, 1, 1);
            Check.due("told by it", m.telling(4, 3), 6);
        }
    }

    private static void afterManyFaults() {
        Check.sentence("P5: its number");
        OneMirror m = Check.withIsland("marks 6;person 9 0;person 37 0");
        for (int i = 0; i < 20; i++) {
            Check.due("60 VALUES, and a byte that can't stand there", Check.rule(m, "tell " + values(60) + "]"),
                Check.fault(124, 0));
        }
        Check.due("60 VALUES", Check.rule(m, "tell " + values(60)), 0);
        m.tell(0, 0, 1, 1);
        Check.due("told by it", m.telling(0, 3), 60);
        Check.due("two that tell, and a FAULT", Check.rule(m, "tell 1;tell 2;x"), Check.fault(14, 0));
        Check.due("one that weighs alone", Check.rule(m, "weigh 4"), 1);
        m.tell(1, 0, 1, 1);
        Check.due("told by it", m.telling(1, 3), 37);
    }

    private static void forced() {
        Check.sentence("P6: A RULE is IN FORCE: which was");
        OneMirror m = withSix();
        Check.due("force 5", m.force(5), 0);
        Check.due("force 5 again", m.force(5), 5);
        Check.due("force 0", m.force(0), 5);
        Check.due("IN FORCE", m.count(3), 0);
    }

    private static void forcedNone() {
        Check.sentence("P6: (NONE: none)");
        OneMirror m = Edge.rich();
        Check.due("force NONE", m.force(-1), 0);
        Check.due("IN FORCE", m.count(3), -1);
        Check.due("force NONE again", m.force(-1), -1);
        Check.due("force 1", m.force(1), -1);
        Check.due("of a new object", new OneMirror().force(-1), -1);
    }

    private static void noSuchRule() {
        Check.sentence("P6: -2, and nothing happens, if there is none such");
        Edge.nothing(Edge::rich, "force 2 of two", m -> m.force(2), -2);
        Edge.nothing(Edge::rich, "force -2", m -> m.force(-2), -2);
        Edge.nothing(EdgeRuleTest::withSix, "force 6 of six", m -> m.force(6), -2);
        Edge.nothing(OneMirror::new, "force 0 of none", m -> m.force(0), -2);
        for (int far : Edge.FAR) {
            Edge.nothing(Edge::rich, "force " + far, m -> m.force(far), -2);
        }
    }
}
