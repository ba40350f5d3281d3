/** Promises 5 and 6: the RULES' language with its FAULTS, what its sums and tests come to, and which is IN FORCE. */
public final class RuleTest {
    private RuleTest() {
    }

    public static void main(String[] args) {
        numbersOfRules();
        faultsOfSums();
        faultsOfTests();
        depth();
        parts();
        tooManyClauses();
        sums();
        tests();
        wordsOfTell();
        wordsOfWeigh();
        held();
        firstThatSpeaks();
        inForce();
        Check.finish();
    }

    private static void numbersOfRules() {
        OneMirror m = new OneMirror();
        for (int i = 0; i < 6; i++) {
            Check.due("a bad one has no number", Check.rule(m, "tell"), Check.fault(4, 0));
            Check.due("the TAPE is empty then", m.count(11), 0);
            Check.due("rule " + i, Check.rule(m, "tell " + i), i);
            Check.due("the TAPE is empty then", m.count(11), 0);
            Check.due("RULES", m.count(2), i + 1);
        }
        Check.put(m, "tell 1");
        Check.due("a seventh", m.rule(), -1);
        Check.due("the TAPE stays", m.count(11), 6);
        Check.put(m, "tell");
        Check.due("a bad seventh", m.rule(), -1);
        Check.due("RULES", m.count(2), 6);
    }

    private static void good(String text) {
        Check.due("rule \"" + text + "\"", Check.rule(new OneMirror(), text), 0);
    }

    private static void faultsOfSums() {
        good("tell 1");
        good("weigh1");
        good("  tell  face+1 ;weigh 5%3  ");
        good("tell 99999");
        good("tell 00000");
        Check.ruleFault("", 0, 0);
        Check.ruleFault("tell", 4, 0);
        Check.ruleFault("tell ", 5, 0);
        Check.ruleFault("tells 1", 0, 0);
        Check.ruleFault("tell x", 5, 0);
        Check.ruleFault("tell 1;", 7, 0);
        Check.ruleFault("weigh 5 %", 9, 0);
        Check.ruleFault("weigh 5 % %", 10, 0);
        Check.ruleFault("tell -1", 5, 0);
        Check.ruleFault("tell 1 2", 7, 0);
        Check.ruleFault("tell 1 123456", 7, 0);
        Check.ruleFault("tell 123456", 5, 1);
        Check.ruleFault("tell 1+000000", 7, 1);
        Check.ruleFault("tell faces", 5, 0);
        Check.ruleFault("tell if", 5, 0);
        Check.ruleFault("tell marks", 5, 0);
        Check.ruleFault("marks 1", 0, 0);
        Check.ruleFault("tell 1 tell 2", 7, 0);
        Check.ruleFault("tell [1]", 5, 0);
        Check.ruleFault("tell (1)", 5, 0);
        Check.ruleFault("tell 1\0", 6, 0);
        Check.ruleFault("tell 1;;tell 1", 7, 0);
        Check.ruleFault("tell1if1=1;Weigh 1", 11, 0);
        Check.ruleFault("tell 1 ifz 1=1", 7, 0);
        Check.ruleFault("tell 1 if" + "a".repeat(391), 7, 0);
        Check.ruleFault("tell " + "1".repeat(395), 5, 1);
        Check.ruleFault("[".repeat(400), 0, 0);
        Check.ruleFault("tell 1" + " ".repeat(393) + ";", 400, 0);
        good("tell 1" + " ".repeat(394));
    }

    private static void faultsOfTests() {
        good("tell 1 if hour = 1");
        good("tell 1 if not[not hour<=1]or 1>=2and tie<3");
        good("tell 1 if [[1=1]or[not 2=2]]");
        Check.ruleFault("weigh 1 if", 10, 0);
        Check.ruleFault("weigh 1 if ;", 11, 0);
        Check.ruleFault("tell 1 if hour", 14, 0);
        Check.ruleFault("tell 1 if hour =", 16, 0);
        Check.ruleFault("tell 1 if hour = 1]", 18, 0);
        Check.ruleFault("tell 1 if [hour = 1", 19, 0);
        Check.ruleFault("tell 1 if [hour]", 15, 0);
        Check.ruleFault("tell 1 if [hour] = 1", 15, 0);
        Check.ruleFault("tell 1 if hour < = 1", 17, 0);
        Check.ruleFault("tell 1 if hour == 1", 16, 0);
        Check.ruleFault("tell 1 if hour => 1", 16, 0);
        Check.ruleFault("tell 1 if hour <> 1", 16, 0);
        Check.ruleFault("tell 1 if 1 < 2 < 3", 16, 0);
        Check.ruleFault("tell 1 if 1=1 or", 16, 0);
        Check.ruleFault("tell 1 if 1=1 and ;", 18, 0);
        Check.ruleFault("tell 1 if not", 13, 0);
        Check.ruleFault("tell 1 if not 1", 15, 0);
        Check.ruleFault("tell 1 if 1=1 not 1=1", 14, 0);
        Check.ruleFault("tell 1 if 1=1 if 1=1", 14, 0);
        Check.ruleFault("tell 1 if 1=123456", 12, 1);
        Check.ruleFault("tell 1 if []", 11, 0);
        Check.ruleFault("tell 1 if notface=1", 10, 0);
        Check.ruleFault("tell 1 iff 1=1", 7, 0);
        Check.ruleFault("tell 1 if 1=1 orr 1=1", 14, 0);
    }

    private static void depth() {
        good("tell 1 if " + "[".repeat(10) + "1=1" + "]".repeat(10));
        good("tell 1 if " + "not ".repeat(10) + "1=1");
        good("tell 1 if " + "not [".repeat(5) + "1=1" + "]".repeat(5));
        good("tell 1 if " + "[".repeat(10) + "1=1" + "]".repeat(10) + " and " + "not ".repeat(10) + "1=1");
        Check.ruleFault("tell 1 if " + "[".repeat(11) + "1=1" + "]".repeat(11), 20, 2);
        Check.ruleFault("tell 1 if " + "not ".repeat(11) + "1=1", 50, 2);
        Check.ruleFault("tell 1 if " + "not[".repeat(5) + "not 1=1" + "]".repeat(5), 30, 2);
        Check.ruleFault("tell 1 if " + "not[".repeat(5) + "[1=1", 30, 2);
        Check.ruleFault("tell 1 if " + "[".repeat(300), 20, 2);
        Check.ruleFault("tell 1 if " + "[".repeat(10) + "1=1 and not 1=1", 28, 2);
    }

    private static void parts() {
        good("tell 1" + "+1".repeat(59));
        Check.ruleFault("tell 1" + "+1".repeat(60), 125, 3);
        Check.ruleFault("tell 1" + "+1".repeat(59) + "+face", 125, 3);
        Check.ruleFault("tell 1" + "+1".repeat(59) + "+x", 125, 0);
        Check.ruleFault("tell 1" + "+1".repeat(59) + "+123456", 125, 1);
        Check.ruleFault("tell 1" + "+1".repeat(59) + ";weigh 1", 131, 3);
        // of 20 facts each has two VALUES and its SIGN
        good("tell 1+1+1 if 1=1" + "&1=1".repeat(18).replace("&", "and "));
        String nineteen = "if 1=1" + " and 1=1".repeat(18);
        Check.ruleFault("tell 1 " + nineteen + " and 1=1", 7 + nineteen.length() + 7, 3);
        Check.ruleFault("tell 1+1 " + nineteen + " and 1=1", 9 + nineteen.length() + 6, 3);
        Check.ruleFault("tell 1+1 " + nineteen + " and 1>=1", 9 + nineteen.length() + 6, 3);
        Check.ruleFault("tell 1+1+1 " + nineteen + " and 1=1", 11 + nineteen.length() + 5, 3);
        Check.ruleFault("tell 1+1 " + nineteen + " and 1;", 9 + nineteen.length() + 6, 0);
    }

    private static void tooManyClauses() {
        good("tell 1;".repeat(11) + "weigh 1");
        Check.ruleFault("tell 1;".repeat(12) + "weigh 1", 84, 4);
        Check.ruleFault("tell 1;".repeat(12) + " tell", 85, 4);
        Check.ruleFault("tell 1;".repeat(12) + "wiegh 1", 84, 0);
        Check.ruleFault("tell 1;".repeat(12), 84, 0);
    }

    /** What person 2 tells person 0 of person 1 by a rule: their FACE is 37, of 64. */
    private static void tells(String rule, int face) {
        OneMirror m = Check.withIsland("marks 6;person 9 0;person 37 0;person 2 0;tie 0 2 4;tie 2 0 6");
        m.rest();
        m.rest();
        m.rest();
        Check.due("rule \"" + rule + "\"", Check.rule(m, rule), 0);
        Check.due("tell", m.tell(0, 2, 0, 1), 0);
        Check.due("told by \"" + rule + "\"", m.telling(0, 3), face);
    }

    private static void sums() {
        tells("tell 7", 7);
        tells("tell 20 - 5 - 3", 12);
        tells("tell 2 + 3 * 4", 14);
        tells("tell 2 * 3 + 4", 10);
        tells("tell 40 - 2 * 3 * 4 - 1 + 6 / 4", 16);
        tells("tell 17 / 5", 3);
        tells("tell 17 % 5", 2);
        tells("tell 60 / 5 / 3", 4);
        tells("tell 3 * 7 % 4 * 5", 5);
        tells("tell 9 / 0 + 3", 3);
        tells("tell 9 % 0 + 3", 3);
        tells("tell hour - 10 + 20", 13);
        tells("tell 30 + 99999 * 0 - 7 / 2", 27);
        tells("tell 1 * tie - tie * 2 - 3 + 20", 13);
        // 99999 ^ 4 is 99996000059999600001: less 5 * 2 ^ 64 it is 7752279691451841921, above 63
        tells("tell 99999 * 99999 * 99999 * 99999", 63);
        // 65536 ^ 4 goes round to 0
        tells("tell 65536 * 65536 * 65536 * 65536 + 5", 5);
        // 65536 ^ 3 * 32768 is the least number of all; less 1 goes round to the greatest
        tells("tell 65536 * 65536 * 65536 * 32768", 0);
        tells("tell 65536 * 65536 * 65536 * 32768 - 1", 63);
        // the least number by 3: towards 0 it leaves a rest of -2
        tells("tell 10 + 65536 * 65536 * 65536 * 32768 % 3", 8);
        tells("tell 10 + 65536 * 65536 * 65536 * 32768 % 0", 10);
        // -858.. is towards 0 as well, and so is -1.6
        tells("tell 10 + 65536 * 65536 * 65536 * 32768 / 99999 / 99999 / 32768 / 32768", 10);
        tells("tell 10 + 65536 * 65536 * 65536 * 32768 / 65536 / 65536 / 65536 / 20000", 9);
    }

    private static void tests() {
        tells("tell 1 if 1 < 2", 1);
        tells("tell 1 if 2 < 2", 37);
        tells("tell 1 if 2 <= 2", 1);
        tells("tell 1 if 3 <= 2", 37);
        tells("tell 1 if 2 = 2", 1);
        tells("tell 1 if 2 = 3", 37);
        tells("tell 1 if 2 >= 2", 1);
        tells("tell 1 if 1 >= 2", 37);
        tells("tell 1 if 3 > 2", 1);
        tells("tell 1 if 2 > 2", 37);
        tells("tell 1 if 0 - 3 < 0 - 2", 1);
        tells("tell 1 if not 1 = 2", 1);
        tells("tell 1 if not not 1 = 2", 37);
        tells("tell 1 if 1 = 1 or 1 = 2 and 1 = 2", 1);
        tells("tell 1 if [1 = 1 or 1 = 2] and 1 = 2", 37);
        tells("tell 1 if 1 = 2 and 1 = 2 or 1 = 1", 1);
        tells("tell 1 if 1 = 2 or 1 = 2 or 1 = 1", 1);
        tells("tell 1 if not 1 = 1 or 1 = 1", 1);
        tells("tell 1 if not [1 = 1 or 1 = 1]", 37);
        tells("tell 1 if not 1 = 2 and 1 = 2", 37);
        tells("tell 1 if 1 + 1 = 4 / 2", 1);
        tells("tell 1 if 0 - 7 / 2 = 0 - 3", 1);
        tells("tell 1 if [0-7 < 0] and tie * 0 - 7 * 1 / 2 + 3 = 0", 1);
    }

    private static void wordsOfTell() {
        tells("tell teller", 2);
        tells("tell hearer + 1", 1);
        tells("tell of", 1);
        tells("tell hour", 3);
        tells("tell face", 37);
        tells("tell tie", 4);
        tells("tell moved + 10", 10);
        tells("tell steps + 10", 10);
    }

    /** What a telling by 2 to 0, retold by 0 to 1 and by 1 to 2 (whose face it is of), counts 4 hours on. */
    private static void weighs(String rule, int sum) {
        OneMirror m = Check.withIsland("marks 6;person 9 0;person 37 0;person 2 0;tie 2 1 5;tie 1 2 6");
        Check.due("rule \"" + rule + "\"", Check.rule(m, rule), 0);
        m.force(0);
        m.tell(-1, 2, 0, 2);
        m.retell(0, 1, 1);
        m.retell(1, 2, 0);
        m.rest();
        m.rest();
        m.rest();
        Check.due("mark 0 by \"" + rule + "\"", m.sum(2, 0), sum);
        Check.due("mark 1 by \"" + rule + "\"", m.sum(2, 1), -sum);
    }

    private static void wordsOfWeigh() {
        weighs("weigh teller", 1);
        weighs("weigh hearer", 2);
        weighs("weigh of * 10", 20);
        weighs("weigh hour", 6);
        weighs("weigh face", 1);
        weighs("weigh tie", 5);
        weighs("weigh moved", 4);
        weighs("weigh steps", 2);
        weighs("tell 5", 1);
        weighs("weigh 7 if tie > 5", 1);
        weighs("weigh 7 if tie > 5;weigh 3 if tie > 4;weigh 2", 3);
    }

    private static void held() {
        tells("tell 64", 63);
        tells("tell 63", 63);
        tells("tell 0 - 1", 0);
        tells("tell 99999", 63);
        weighs("weigh 999", 999);
        weighs("weigh 1000", 999);
        weighs("weigh 99999 * 99999", 999);
        weighs("weigh 0", 0);
        weighs("weigh 0 - 5", 0);
    }

    private static void firstThatSpeaks() {
        tells("tell 1;tell 2", 1);
        tells("weigh 9;tell 2", 2);
        tells("weigh 9", 37);
        tells("tell 1 if 1 = 2;tell 2 if 1 = 1;tell 3", 2);
        tells("tell 1 if 1 = 2;tell 2 if 2 = 1;tell 3", 3);
        tells("tell 1 if 1 = 2;tell 2 if 2 = 1", 37);
    }

    private static void inForce() {
        OneMirror m = new OneMirror();
        Check.due("none at first", m.count(3), -1);
        Check.due("none such", m.force(0), -2);
        Check.rule(m, "weigh 1");
        Check.rule(m, "weigh 2");
        Check.due("force 1", m.force(1), -1);
        Check.due("force 0", m.force(0), 1);
        Check.due("force 2", m.force(2), -2);
        Check.due("force -2", m.force(-2), -2);
        Check.due("force 6", m.force(6), -2);
        Check.due("force far", m.force(Integer.MAX_VALUE), -2);
        Check.due("in force", m.count(3), 0);
        Check.due("force 0 again", m.force(0), 0);
        Check.due("force none", m.force(-1), 0);
        Check.due("force none again", m.force(-1), -1);
        Check.due("none", m.count(3), -1);
    }
}
