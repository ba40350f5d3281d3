/** The edges of promises 11 to 13: TELL, RETELL, LOOK. */
public final class EdgeTellingTest {
    private EdgeTellingTest() {
    }

    public static void main(String[] args) {
        tellByNone();
        heldBelow();
        heldAbove();
        withoutAClause();
        ofThemselves();
        tellUnlike();
        tellWithoutPeople();
        tellWithoutRule();
        tellWithoutIsland();
        tellTheFortieth();
        tellWithForty();
        tellAtTheLastHour();
        retellNoSlips();
        retellAllSlips();
        retellSlipsBeyond();
        retellToAnother();
        retellWithoutTelling();
        retellWithoutHearer();
        retellTheFortieth();
        retellWithForty();
        retellAtTheLastHour();
        lookAsItIs();
        lookOfOneWhoKeeps();
        lookWithoutIsland();
        lookTheFortieth();
        lookWithForty();
        lookAtTheLastHour();
        anHourGoesBy();
        Check.finish();
    }

    private static OneMirror thirtyNine() {
        return Edge.with(Edge::full, OneMirror::undo);
    }

    private static OneMirror last() {
        return Edge.quiet(9999);
    }

    private static OneMirror oneBefore() {
        return Edge.quiet(9998);
    }

    private static void told(OneMirror m, int telling, int... due) {
        for (int what = 0; what < due.length; what++) {
            Check.due("TELLING " + telling + " " + what, m.telling(telling, what), due[what]);
        }
    }

    private static void tellByNone() {
        Check.sentence("II: TOLD by a RULE (NONE: without): the FACE itself");
        OneMirror m = Edge.rich();
        Check.due("tell", m.tell(-1, 1, 0, 0), 4);
        told(m, 4, 1, 0, 0, 5, 7, -1, 0);
    }

    private static int toldBy(String island, String rule) {
        OneMirror m = Check.withIsland(island);
        Check.rule(m, rule);
        m.tell(0, 0, 1, 1);
        return m.telling(0, 3);
    }

    private static void heldBelow() {
        Check.sentence("II: held to 0 to one less than there are FACES (2 to the MARKS)");
        for (int marks = 1; marks <= 6; marks++) {
            String island = "marks " + marks + ";person 0 0;person 1 0";
            Check.due("0", toldBy(island, "tell 0"), 0);
            Check.due("-1", toldBy(island, "tell 0-1"), 0);
            Check.due("far below", toldBy(island, "tell 1-99999*99999*99999"), 0);
        }
    }

    private static void heldAbove() {
        Check.sentence("II: held to 0 to one less than there are FACES (2 to the MARKS)");
        for (int marks = 1; marks <= 6; marks++) {
            String island = "marks " + marks + ";person 0 0;person 1 0";
            int last = (1 << marks) - 1;
            Check.due("one less", toldBy(island, "tell " + (last - 1)), last - 1);
            Check.due("the last", toldBy(island, "tell " + last), last);
            Check.due("one more", toldBy(island, "tell " + (last + 1)), last);
            Check.due("far above", toldBy(island, "tell 65536*65536"), last);
        }
    }

    private static void withoutAClause() {
        Check.sentence("II: without one, or a RULE, the FACE itself");
        String island = "marks 3;person 0 0;person 5 0";
        Check.due("no tell CLAUSE", toldBy(island, "weigh 3"), 5);
        Check.due("none whose TEST holds", toldBy(island, "tell 1 if 1=2;tell 2 if tie>0"), 5);
        Check.due("the first that holds", toldBy(island, "tell 1 if 1=2;tell 2 if tie=0;tell 3"), 2);
        Check.due("the first without a TEST", toldBy(island, "weigh 7;tell 4;tell 2 if tie=0"), 4);
    }

    private static void ofThemselves() {
        Check.sentence("II: of themselves: likewise, the FACE being what they BELIEVE");
        OneMirror m = Check.withIsland("marks 3;person 5 0;person 6 0");
        Check.rule(m, "tell face+1");
        Check.rule(m, "weigh 1");
        m.tell(-1, 0, 1, 0);
        told(m, 0, 0, 1, 0, 0, 0, -1, 0);
        m.look();
        m.tell(-1, 0, 1, 0);
        told(m, 2, 0, 1, 0, 5, 2, -1, 0);
        m.tell(0, 0, 1, 0);
        told(m, 3, 0, 1, 0, 6, 3, -1, 0);
        m.tell(1, 0, 1, 0);
        told(m, 4, 0, 1, 0, 5, 4, -1, 0);
    }

    private static void tellUnlike() {
        Check.sentence("P11: teller and hearer unlike; NONE, and nothing happens, without these");
        for (int p = 0; p < 4; p++) {
            int person = p;
            Edge.nothing(Edge::rich, "tell to oneself", m -> m.tell(-1, person, person, 0), -1);
        }
    }

    private static void tellWithoutPeople() {
        Check.sentence("P11: NONE, and nothing happens, without these");
        for (int person : new int[] {-1, 4, 8, Integer.MIN_VALUE, Integer.MAX_VALUE}) {
            Edge.nothing(Edge::rich, "teller " + person, m -> m.tell(-1, person, 1, 0), -1);
            Edge.nothing(Edge::rich, "hearer " + person, m -> m.tell(-1, 0, person, 0), -1);
            Edge.nothing(Edge::rich, "of " + person, m -> m.tell(-1, 0, 1, person), -1);
        }
        Check.due("the last ones", Edge.rich().tell(-1, 3, 2, 3), 4);
    }

    private static void tellWithoutRule() {
        Check.sentence("P11: by a RULE, or NONE; NONE, and nothing happens, without these");
        for (int rule : new int[] {2, -2, 6, Integer.MIN_VALUE, Integer.MAX_VALUE}) {
            Edge.nothing(Edge::rich, "RULE " + rule, m -> m.tell(rule, 0, 1, 0), -1);
        }
        Check.due("the last RULE", Edge.rich().tell(1, 0, 1, 0), 4);
    }

    private static void tellWithoutIsland() {
        Check.sentence("P11: NONE, and nothing happens, without these");
        Edge.nothing(OneMirror::new, "no ISLAND", m -> m.tell(-1, 0, 1, 0), -1);
    }

    private static void tellTheFortieth() {
        Check.sentence("II: A TELLING (40 at most, numbered as they come)");
        Check.due("the fortieth", thirtyNine().tell(-1, 0, 1, 1), 39);
    }

    private static void tellWithForty() {
        Check.sentence("P11: NONE, and nothing happens, if there are 40");
        Edge.nothing(Edge::full, "tell", m -> m.tell(-1, 0, 1, 1), -1);
        Edge.nothing(Edge::full, "tell by a RULE", m -> m.tell(1, 0, 1, 1), -1);
    }

    private static void tellAtTheLastHour() {
        Check.sentence("P11: NONE, and nothing happens, at HOUR 9999");
        Edge.nothing(EdgeTellingTest::last, "tell", m -> m.tell(-1, 0, 1, 1), -1);
        OneMirror m = oneBefore();
        int tellings = m.count(6);
        Check.due("in the HOUR before", m.tell(-1, 0, 1, 1), tellings);
        Check.due("HOUR", m.count(4), 9999);
        Check.due("told in HOUR", m.telling(tellings, 4), 9998);
    }

    private static void retellNoSlips() {
        Check.sentence("II: as it was, but for told MARKS that slip");
        OneMirror m = Edge.rich();
        Check.due("retell", m.retell(1, 3, 0), 4);
        told(m, 4, 0, 3, 0, 6, 7, 1, 0);
    }

    private static void retellAllSlips() {
        Check.sentence("II: told MARKS that slip (bits that are other ones)");
        OneMirror m = Edge.rich();
        Check.due("retell", m.retell(1, 3, 7), 4);
        told(m, 4, 0, 3, 0, 1, 7, 1, 0);
        Check.due("retell it on", m.retell(4, 0, 4), 5);
        told(m, 5, 3, 0, 0, 5, 8, 4, 0);
    }

    private static void retellSlipsBeyond() {
        Check.sentence("P12: with slips (as bits); NONE, and nothing happens, without these");
        for (int slips : new int[] {8, 9, 64, -1, -8, Integer.MIN_VALUE, Integer.MAX_VALUE}) {
            Edge.nothing(Edge::rich, "slips " + slips, m -> m.retell(1, 3, slips), -1);
        }
    }

    private static void retellToAnother() {
        Check.sentence("P12: RETELL by the hearer of a TELLING to another one; NONE, and nothing happens, without these");
        Edge.nothing(Edge::rich, "to themselves", m -> m.retell(1, 0, 0), -1);
        Edge.nothing(Edge::rich, "a LOOK to themselves", m -> m.retell(3, 1, 0), -1);
        OneMirror m = Edge.rich();
        Check.due("back to who told it", m.retell(1, 1, 0), 4);
        told(m, 4, 0, 1, 0, 6, 7, 1, 0);
        Check.due("a LOOK to another one", m.retell(3, 0, 0), 5);
        told(m, 5, 1, 0, 1, 2, 8, 3, 0);
    }

    private static void retellWithoutTelling() {
        Check.sentence("P12: NONE, and nothing happens, without these");
        for (int telling : new int[] {-1, 4, 40, Integer.MIN_VALUE, Integer.MAX_VALUE}) {
            Edge.nothing(Edge::rich, "TELLING " + telling, m -> m.retell(telling, 3, 0), -1);
        }
        Edge.nothing(Edge::early, "no TELLING yet", m -> m.retell(0, 3, 0), -1);
        Edge.nothing(OneMirror::new, "no ISLAND", m -> m.retell(0, 0, 0), -1);
    }

    private static void retellWithoutHearer() {
        Check.sentence("P12: NONE, and nothing happens, without these");
        for (int person : new int[] {-1, 4, 8, Integer.MIN_VALUE, Integer.MAX_VALUE}) {
            Edge.nothing(Edge::rich, "hearer " + person, m -> m.retell(1, person, 0), -1);
        }
    }

    private static void retellTheFortieth() {
        Check.sentence("II: A TELLING (40 at most, numbered as they come)");
        OneMirror m = thirtyNine();
        Check.due("the fortieth", m.retell(38, m.telling(38, 0), 1), 39);
        Check.due("from", m.telling(39, 5), 38);
    }

    private static void retellWithForty() {
        Check.sentence("P12: NONE, and nothing happens, if there are 40");
        Edge.nothing(Edge::full, "retell", m -> m.retell(1, 3, 0), -1);
    }

    private static void retellAtTheLastHour() {
        Check.sentence("P12: NONE, and nothing happens, at HOUR 9999");
        Edge.nothing(EdgeTellingTest::last, "retell", m -> m.retell(0, 2, 0), -1);
        OneMirror m = oneBefore();
        Check.due("in the HOUR before", m.retell(0, 2, 0), m.count(6) - 1);
        Check.due("HOUR", m.count(4), 9999);
    }

    private static void lookAsItIs() {
        Check.sentence("II: A LOOK: who has the GLASS is told of themselves by themselves, their FACE as it is");
        OneMirror m = Edge.unkept();
        Check.due("look", m.look(), 4);
        told(m, 4, 1, 1, 1, 2, 7, -1, 1);
        m.give(2);
        Check.due("look", m.look(), 5);
        told(m, 5, 2, 2, 2, 7, 9, -1, 1);
        Check.due("LOOKED", m.person(1, 3), 2);
        Check.due("LOOKED", m.person(2, 3), 1);
    }

    private static void lookOfOneWhoKeeps() {
        Check.sentence("P13: LOOK: the number of the TELLING");
        OneMirror m = Edge.rich();
        Check.due("look", m.look(), 4);
        Check.due("still KEPT", m.person(1, 6), 1);
    }

    private static void lookWithoutIsland() {
        Check.sentence("P13: NONE, and nothing happens, without an ISLAND");
        Edge.nothing(OneMirror::new, "look", OneMirror::look, -1);
    }

    private static void lookTheFortieth() {
        Check.sentence("II: A TELLING (40 at most, numbered as they come)");
        Check.due("the fortieth", thirtyNine().look(), 39);
    }

    private static void lookWithForty() {
        Check.sentence("P13: NONE, and nothing happens, if there are 40");
        Edge.nothing(Edge::full, "look", OneMirror::look, -1);
    }

    private static void lookAtTheLastHour() {
        Check.sentence("P13: NONE, and nothing happens, at HOUR 9999");
        Edge.nothing(EdgeTellingTest::last, "look", OneMirror::look, -1);
        OneMirror m = oneBefore();
        Check.due("in the HOUR before", m.look(), m.count(6) - 1);
        Check.due("HOUR", m.count(4), 9999);
    }

    private static void anHourGoesBy() {
        Check.sentence("II: An HOUR goes by in each ACT of these: TELL, RETELL, LOOK");
        OneMirror m = Edge.rich();
        m.tell(-1, 0, 1, 1);
        Check.due("HOUR", m.count(4), 8);
        m.retell(1, 3, 0);
        Check.due("HOUR", m.count(4), 9);
        m.look();
        Check.due("HOUR", m.count(4), 10);
        Check.due("told in HOUR", m.telling(4, 4), 7);
        Check.due("retold in HOUR", m.telling(5, 4), 8);
        Check.due("seen in HOUR", m.telling(6, 4), 9);
    }
}
