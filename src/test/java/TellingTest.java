/** Promises 7, 8 and 10 to 13: TELLINGS told, retold and seen, and what is believed by them. */
public final class TellingTest {
    private static final String ISLAND =
        "marks 3;person 5 10;person 2 3;person 7 0;tie 0 1 4;tie 0 2 2;tie 1 0 9;boat 0 1;boat 1 2;glass 1";

    private TellingTest() {
    }

    public static void main(String[] args) {
        telling();
        tellByRule();
        tellOfOneself();
        tellRefused();
        retell();
        retellRefused();
        look();
        forty();
        beliefWithoutRule();
        beliefByRule();
        lookWeighed();
        lastHour();
        Check.finish();
    }

    private static void told(OneMirror m, int telling, int... due) {
        for (int what = 0; what < due.length; what++) {
            Check.due("telling " + telling + " " + what, m.telling(telling, what), due[what]);
        }
    }

    private static void telling() {
        OneMirror m = Check.withIsland(ISLAND);
        Check.due("none yet", m.telling(0, 0), -2);
        m.rest();
        Check.due("tell", m.tell(-1, 0, 1, 2), 0);
        Check.due("tell", m.tell(-1, 2, 0, 0), 1);
        Check.due("look", m.look(), 2);
        Check.due("retell", m.retell(1, 1, 4), 3);
        told(m, 0, 0, 1, 2, 7, 1, -1, 0);
        told(m, 1, 2, 0, 0, 5, 2, -1, 0);
        told(m, 2, 1, 1, 1, 2, 3, -1, 1);
        told(m, 3, 0, 1, 0, 1, 4, 1, 0);
        Check.due("HOUR", m.count(4), 5);
        Check.due("what 7", m.telling(0, 7), -2);
        Check.due("what -1", m.telling(0, -1), -2);
        Check.due("4", m.telling(4, 0), -2);
        Check.due("-1", m.telling(-1, 0), -2);
        Check.due("far", m.telling(Integer.MAX_VALUE, 0), -2);
        Check.due("least", m.telling(Integer.MIN_VALUE, 6), -2);
    }

    private static void tellByRule() {
        OneMirror m = Check.withIsland(ISLAND);
        Check.rule(m, "tell face + 1 if tie > 3;weigh tie * 2 if moved < 2;weigh 1");
        Check.rule(m, "tell 1");
        m.force(1);
        Check.due("1 to 0: the tie is 4", m.tell(0, 1, 0, 0), 0);
        told(m, 0, 1, 0, 0, 6, 0, -1, 0);
        Check.due("2 to 0: the tie is 2", m.tell(0, 2, 0, 0), 1);
        told(m, 1, 2, 0, 0, 5, 1, -1, 0);
        Check.due("0 to 1 of 2: the tie is 9, held", m.tell(0, 0, 1, 2), 2);
        told(m, 2, 0, 1, 2, 7, 2, -1, 0);
        Check.due("by no rule, though one is in force", m.tell(-1, 1, 0, 0), 3);
        told(m, 3, 1, 0, 0, 5, 3, -1, 0);
        Check.due("by rule 1", m.tell(1, 1, 0, 0), 4);
        told(m, 4, 1, 0, 0, 1, 4, -1, 0);
    }

    private static void tellOfOneself() {
        OneMirror m = Check.withIsland(ISLAND);
        Check.rule(m, "tell face + 1");
        m.tell(-1, 1, 0, 1);
        told(m, 0, 1, 0, 1, 0, 0, -1, 0);
        m.look();
        m.tell(-1, 1, 0, 1);
        told(m, 2, 1, 0, 1, 2, 2, -1, 0);
        m.tell(0, 1, 2, 1);
        told(m, 3, 1, 2, 1, 3, 3, -1, 0);
        Check.rule(m, "weigh 0");
        m.force(1);
        m.tell(0, 1, 2, 1);
        told(m, 4, 1, 2, 1, 1, 4, -1, 0);
        Check.due("told by oneself to another one it counts for nobody", m.person(0, 5), 7);
    }

    private static void tellRefused() {
        OneMirror m = Check.withIsland(ISLAND);
        Check.rule(m, "tell 1");
        Check.due("alike", m.tell(-1, 1, 1, 0), -1);
        Check.due("teller 3", m.tell(-1, 3, 1, 0), -1);
        Check.due("hearer 3", m.tell(-1, 1, 3, 0), -1);
        Check.due("of 3", m.tell(-1, 1, 0, 3), -1);
        Check.due("teller -1", m.tell(-1, -1, 1, 0), -1);
        Check.due("hearer -1", m.tell(-1, 1, -1, 0), -1);
        Check.due("of -1", m.tell(-1, 1, 0, -1), -1);
        Check.due("rule 1", m.tell(1, 1, 0, 0), -1);
        Check.due("rule -2", m.tell(-2, 1, 0, 0), -1);
        Check.due("HOUR", m.count(4), 0);
        Check.due("ACTS", m.count(9), 0);
        Check.due("TELLINGS", m.count(6), 0);
    }

    private static void retell() {
        OneMirror m = Check.withIsland(ISLAND);
        m.tell(-1, 0, 1, 2);
        Check.due("back to who told it", m.retell(0, 0, 0), 1);
        told(m, 1, 1, 0, 2, 7, 1, 0, 0);
        Check.due("to whom it is of", m.retell(0, 2, 3), 2);
        told(m, 2, 1, 2, 2, 4, 2, 0, 0);
        Check.due("retold again", m.retell(1, 2, 7), 3);
        told(m, 3, 0, 2, 2, 0, 3, 1, 0);
        m.look();
        Check.due("a LOOK told on is none", m.retell(4, 2, 1), 5);
        told(m, 5, 1, 2, 1, 3, 5, 4, 0);
        Check.due("sum 2 0", m.sum(2, 0), -2);
    }

    private static void retellRefused() {
        OneMirror m = Check.withIsland(ISLAND);
        Check.due("no TELLING", m.retell(0, 1, 0), -1);
        m.tell(-1, 0, 1, 2);
        Check.due("to oneself", m.retell(0, 1, 0), -1);
        Check.due("to 3", m.retell(0, 3, 0), -1);
        Check.due("to -1", m.retell(0, -1, 0), -1);
        Check.due("TELLING 1", m.retell(1, 0, 0), -1);
        Check.due("TELLING -1", m.retell(-1, 0, 0), -1);
        Check.due("slips 8", m.retell(0, 0, 8), -1);
        Check.due("slips -1", m.retell(0, 0, -1), -1);
        Check.due("HOUR", m.count(4), 1);
        Check.due("ACTS", m.count(9), 1);
    }

    private static void look() {
        OneMirror m = Check.withIsland(ISLAND);
        m.keep(true);
        Check.due("look", m.look(), 0);
        Check.due("look", m.look(), 1);
        told(m, 1, 1, 1, 1, 2, 1, -1, 1);
        Check.due("LOOKED", m.person(1, 3), 2);
        Check.due("LOOKED", m.person(0, 3), 0);
        Check.due("HOUR", m.count(4), 2);
    }

    private static void forty() {
        OneMirror m = Check.withIsland(ISLAND);
        for (int i = 0; i < 40; i++) {
            Check.due("telling " + i, i % 3 == 0 ? m.look() : m.tell(-1, 0, 1, 1), i);
        }
        Check.due("TELLINGS", m.count(6), 40);
        Check.due("tell", m.tell(-1, 0, 1, 1), -1);
        Check.due("retell", m.retell(1, 0, 0), -1);
        Check.due("look", m.look(), -1);
        Check.due("HOUR", m.count(4), 40);
        Check.due("sum", m.sum(1, 1), 14 * 99 + 26);
        m.undo();
        Check.due("again", m.tell(-1, 0, 1, 1), 39);
    }

    private static void beliefWithoutRule() {
        OneMirror m = Check.withIsland(ISLAND);
        Check.due("believed", m.person(0, 4), 0);
        Check.due("open", m.person(0, 5), 7);
        m.tell(-1, 1, 0, 0);
        Check.due("believed", m.person(0, 4), 5);
        Check.due("open", m.person(0, 5), 0);
        m.retell(0, 1, 0);
        m.retell(1, 0, 3);
        // told 5 and 6 of a face
        Check.due("believed", m.person(0, 4), 4);
        Check.due("open", m.person(0, 5), 3);
        Check.due("sum 0", m.sum(0, 0), 0);
        Check.due("sum 1", m.sum(0, 1), 0);
        Check.due("sum 2", m.sum(0, 2), 2);
        Check.due("what 1 was told of 0 is not of 1", m.person(1, 5), 7);
        Check.due("sum 3", m.sum(0, 3), -1000000);
        Check.due("sum -1", m.sum(0, -1), -1000000);
        Check.due("sum of 3", m.sum(3, 0), -1000000);
        Check.due("sum of -1", m.sum(-1, 0), -1000000);
        Check.due("sum far", m.sum(Integer.MAX_VALUE, Integer.MIN_VALUE), -1000000);
    }

    private static void beliefByRule() {
        OneMirror m = Check.withIsland(ISLAND);
        Check.rule(m, "tell face + 1 if tie > 3;weigh tie * 2 if moved < 2;weigh 1");
        m.tell(-1, 1, 0, 0);
        Check.due("not in force", m.sum(0, 0), 1);
        m.force(0);
        Check.due("moved 1: twice the tie", m.sum(0, 0), 8);
        Check.due("against it", m.sum(0, 1), -8);
        m.tell(0, 2, 0, 0);
        // the first one counts 1 now, the other one 4
        Check.due("sum 0", m.sum(0, 0), 5);
        m.rest();
        Check.due("sum 0", m.sum(0, 0), 2);
        m.force(-1);
        Check.due("without", m.sum(0, 2), 2);
    }

    private static void lookWeighed() {
        OneMirror m = Check.withIsland(ISLAND);
        m.look();
        Check.due("without a RULE", m.sum(1, 1), 99);
        Check.due("without a RULE", m.sum(1, 0), -99);
        Check.rule(m, "weigh 5 if tie > 0");
        Check.rule(m, "weigh tie + 7 + steps");
        m.tell(-1, 0, 1, 1);
        m.force(0);
        Check.due("no CLAUSE speaks", m.sum(1, 1), 99 + 5);
        m.force(1);
        Check.due("one does: the tie of a LOOK is 0", m.sum(1, 1), 7 + 16);
    }

    private static void lastHour() {
        OneMirror m = Check.withIsland("marks 1;person 1 9;person 0 9;boat 0 1");
        Check.rule(m, "tell 1");
        m.save();
        m.save();
        m.sell(0, 1, 0);
        m.tell(-1, 1, 0, 0);
        for (int i = 0; i < 166; i++) {
            m.run(0, 60);
        }
        Check.due("HOUR", m.count(4), 3 + 9960);
        Check.due("beyond", m.run(0, 37), -1);
        Check.due("to the last", m.run(0, 36), m.count(6));
        Check.due("HOUR", m.count(4), 9999);
        Check.due("beyond", m.run(0, 1), -1);
        Check.due("TELLINGS", m.count(6), 3);
        Check.due("tell", m.tell(-1, 0, 1, 1), -1);
        Check.due("retell", m.retell(0, 1, 0), -1);
        Check.due("look", m.look(), -1);
        int other = 1 - m.count(5);
        Check.due("give", m.give(other), -1);
        Check.due("save", m.save(), -1);
        Check.due("spend", m.spend(other), -1);
        Check.due("rest", m.rest(), -1);
        Check.due("HOUR", m.count(4), 9999);
        Check.due("ACTS", m.count(9), 0);
        Check.due("sell takes no HOUR", m.sell(1, 0, 2), 7);
        Check.due("keep takes no HOUR", m.keep(true), true);
        Check.due("drawn goes on", m.drawn(-1, 1, 60, 0, 1), 0);
        Check.due("image", m.image(0), 9999);
        Check.due("back", m.back(0), 9999);
    }
}
