/** The edges of the BELIEF and of promises 7 to 10: person, sum, tie, telling. */
public final class EdgeBeliefTest {
    private static final String TWO = "marks 2;person 1 0;person 2 0;tie 0 1 5;glass 0";

    private EdgeBeliefTest() {
    }

    public static void main(String[] args) {
        personWithout();
        personChangesNothing();
        howOftenTheyLooked();
        boatsAsBits();
        keepsTheGlass();
        sumWithout();
        sumChangesNothing();
        tieWithout();
        tieUnlike();
        tieNone();
        tellingWithout();
        tellingFromNone();
        tellingIsALook();
        toldThemOfThemselves();
        countsOneWithout();
        countsNinetyNineOfALook();
        heldToZero();
        heldToNineHundredNinetyNine();
        firstClauseThatHolds();
        believedAboveZero();
        openAtZero();
        allTogether();
        Check.finish();
    }

    private static void personWithout() {
        Check.sentence("P7: NONE without these");
        for (int what = 0; what < 8; what++) {
            Check.due("no ISLAND, what " + what, new OneMirror().person(0, what), -1);
            Check.due("PERSON -1, what " + what, Edge.rich().person(-1, what), -1);
            Check.due("PERSON 4 of four, what " + what, Edge.rich().person(4, what), -1);
            Check.due("PERSON 8, what " + what, Edge.rich().person(8, what), -1);
        }
        Check.due("what -1", Edge.rich().person(0, -1), -1);
        Check.due("what 8", Edge.rich().person(0, 8), -1);
        for (int far : Edge.FAR) {
            Check.due("PERSON " + far, Edge.rich().person(far, 0), -1);
            Check.due("what " + far, Edge.rich().person(0, far), -1);
        }
    }

    private static void personChangesNothing() {
        Check.sentence("III: By what is asked nothing changes");
        int[] due = {2, 57, 1, 1, 2, 0, 1, 5};
        for (int i = 0; i < 8; i++) {
            int what = i;
            Edge.nothing(Edge::rich, "person 1 " + what, m -> m.person(1, what), due[what]);
        }
    }

    private static void howOftenTheyLooked() {
        Check.sentence("P7: 3: how often they LOOKED");
        OneMirror m = Check.withIsland(TWO);
        for (int i = 0; i < 40; i++) {
            Check.due("LOOKED", m.person(0, 3), i);
            m.look();
        }
        Check.due("LOOKED", m.person(0, 3), 40);
        Check.due("the other one", m.person(1, 3), 0);
        m.undo();
        Check.due("undone", m.person(0, 3), 39);
    }

    private static void boatsAsBits() {
        Check.sentence("P7: 7: to whom BOATS go, as bits");
        int[] due = {2, 5, 2, 0};
        for (int p = 0; p < 4; p++) {
            Check.due("BOATS from " + p, Edge.rich().person(p, 7), due[p]);
        }
    }

    private static void keepsTheGlass() {
        Check.sentence("P7: 6: 1 if they KEEP the GLASS, else 0");
        for (int p = 0; p < 4; p++) {
            Check.due("KEPT by 1, asked of " + p, Edge.rich().person(p, 6), p == 1 ? 1 : 0);
            Check.due("KEPT by nobody, asked of " + p, Edge.unkept().person(p, 6), 0);
        }
    }

    private static void sumWithout() {
        Check.sentence("P8: -1000000 without these");
        Check.due("no ISLAND", new OneMirror().sum(0, 0), -1000000);
        Check.due("PERSON 4 of four", Edge.rich().sum(4, 0), -1000000);
        Check.due("PERSON -1", Edge.rich().sum(-1, 0), -1000000);
        Check.due("MARK 3 of three", Edge.rich().sum(0, 3), -1000000);
        Check.due("MARK -1", Edge.rich().sum(0, -1), -1000000);
        for (int far : Edge.FAR) {
            Check.due("PERSON " + far, Edge.rich().sum(far, 0), -1000000);
            Check.due("MARK " + far, Edge.rich().sum(0, far), -1000000);
        }
        Check.due("the last of both", Edge.rich().sum(3, 2), 0);
    }

    private static void sumChangesNothing() {
        Check.sentence("III: By what is asked nothing changes");
        // told 6 by 1, whom 0 heeds by 4; and 2 by 0, whom 1 heeds by 9, and by the GLASS, which nobody heeds
        Edge.nothing(Edge::rich, "sum 0 2", m -> m.sum(0, 2), 8);
        Edge.nothing(Edge::rich, "sum 0 0", m -> m.sum(0, 0), -8);
        Edge.nothing(Edge::rich, "sum 1 1", m -> m.sum(1, 1), 18);
    }

    private static void tieWithout() {
        Check.sentence("P9: NONE without these");
        Check.due("no ISLAND", new OneMirror().tie(0, 1), -1);
        Check.due("4 of four", Edge.rich().tie(4, 0), -1);
        Check.due("4 of four", Edge.rich().tie(0, 4), -1);
        Check.due("-1", Edge.rich().tie(-1, 0), -1);
        Check.due("-1", Edge.rich().tie(0, -1), -1);
        for (int far : Edge.FAR) {
            Check.due("one " + far, Edge.rich().tie(far, 0), -1);
            Check.due("other " + far, Edge.rich().tie(0, far), -1);
        }
        Edge.nothing(Edge::rich, "tie 0 4", m -> m.tie(0, 4), -1);
        Edge.nothing(Edge::rich, "tie 1 0", m -> m.tie(1, 0), 9);
    }

    private static void tieUnlike() {
        Check.sentence("P9: NONE without these (unlike)");
        for (int p = 0; p < 4; p++) {
            Check.due("tie " + p + " " + p, Edge.rich().tie(p, p), -1);
        }
    }

    private static void tieNone() {
        Check.sentence("P9: 0 without a tie");
        Check.due("tie 0 1", Edge.rich().tie(0, 1), 4);
        Check.due("tie 1 2", Edge.rich().tie(1, 2), 0);
        Check.due("tie 0 3", Edge.rich().tie(0, 3), 0);
        Check.due("tie 3 0", Edge.rich().tie(3, 0), 0);
    }

    private static void tellingWithout() {
        Check.sentence("P10: -2 without these");
        for (int what = 0; what < 7; what++) {
            Check.due("no ISLAND, what " + what, new OneMirror().telling(0, what), -2);
            Check.due("TELLING -1, what " + what, Edge.rich().telling(-1, what), -2);
            Check.due("TELLING 4 of four, what " + what, Edge.rich().telling(4, what), -2);
            Check.due("TELLING 40 of forty, what " + what, Edge.full().telling(40, what), -2);
        }
        Check.due("what -1", Edge.rich().telling(0, -1), -2);
        Check.due("what 7", Edge.rich().telling(0, 7), -2);
        for (int far : Edge.FAR) {
            Check.due("TELLING " + far, Edge.rich().telling(far, 0), -2);
            Check.due("what " + far, Edge.rich().telling(0, far), -2);
        }
        Check.due("one that was undone", Edge.with(() -> Edge.with(Edge::early, OneMirror::look), OneMirror::undo)
            .telling(0, 0), -2);
        Edge.nothing(Edge::rich, "telling 3 6", m -> m.telling(3, 6), 1);
    }

    private static void tellingFromNone() {
        Check.sentence("P10: 5: from (NONE)");
        int[] due = {-1, -1, 1, -1};
        for (int t = 0; t < 4; t++) {
            Check.due("TELLING " + t, Edge.rich().telling(t, 5), due[t]);
        }
    }

    private static void tellingIsALook() {
        Check.sentence("P10: 6: 1 if it is a LOOK, else 0");
        int[] due = {0, 0, 0, 1};
        for (int t = 0; t < 4; t++) {
            Check.due("TELLING " + t, Edge.rich().telling(t, 6), due[t]);
        }
        OneMirror m = Check.withIsland(TWO);
        m.look();
        m.tell(-1, 0, 1, 0);
        m.retell(0, 1, 0);
        Check.due("of themselves to another one", m.telling(1, 6), 0);
        Check.due("a LOOK told on", m.telling(2, 6), 0);
    }

    private static void toldThemOfThemselves() {
        Check.sentence("II: of all TELLINGS that were told them of themselves");
        OneMirror m = Check.withIsland("marks 2;person 1 0;person 2 0;person 3 0");
        m.tell(-1, 1, 0, 2);
        m.tell(-1, 1, 2, 0);
        m.tell(-1, 0, 1, 0);
        Check.due("of another one, to another one, by themselves", m.person(0, 5), 3);
        m.tell(-1, 2, 0, 0);
        Check.due("sum", m.sum(0, 0), 1);
        m.retell(1, 0, 0);
        Check.due("retold", m.sum(0, 0), 2);
    }

    private static OneMirror told() {
        OneMirror m = Check.withIsland(TWO);
        m.tell(-1, 1, 0, 0);
        return m;
    }

    private static OneMirror forced(OneMirror m, String rule) {
        m.force(Check.rule(m, rule));
        return m;
    }

    private static void countsOneWithout() {
        Check.sentence("II: without one, or a RULE: 1");
        Check.due("no RULE", told().sum(0, 0), 1);
        Check.due("no weigh CLAUSE", forced(told(), "tell 5").sum(0, 0), 1);
        Check.due("none whose TEST holds", forced(told(), "weigh 7 if 1=2;weigh 8 if tie>5").sum(0, 0), 1);
        OneMirror m = told();
        Check.rule(m, "weigh 7");
        Check.due("not IN FORCE", m.sum(0, 0), 1);
    }

    private static OneMirror looked() {
        OneMirror m = Check.withIsland(TWO);
        m.look();
        return m;
    }

    private static void countsNinetyNineOfALook() {
        Check.sentence("II: a LOOK without one: 99");
        Check.due("no RULE", looked().sum(0, 0), 99);
        Check.due("no RULE, against it", looked().sum(0, 1), -99);
        Check.due("no weigh CLAUSE", forced(looked(), "tell 5").sum(0, 0), 99);
        Check.due("none whose TEST holds", forced(looked(), "weigh 7 if tie>0").sum(0, 0), 99);
        Check.due("one that holds", forced(looked(), "weigh 7 if tie=0").sum(0, 0), 7);
        Check.due("one that holds, nothing", forced(looked(), "weigh 0").sum(0, 0), 0);
    }

    private static void heldToZero() {
        Check.sentence("II: held to 0 to 999");
        Check.due("0", forced(told(), "weigh 0").sum(0, 0), 0);
        Check.due("-1", forced(told(), "weigh 0-1").sum(0, 0), 0);
        Check.due("-99999", forced(told(), "weigh 0-99999").sum(0, 0), 0);
        Check.due("beyond 32 bits", forced(told(), "weigh 0-65536*65536-65536*32768+7").sum(0, 0), 0);
        Check.due("1", forced(told(), "weigh 1").sum(0, 0), 1);
    }

    private static void heldToNineHundredNinetyNine() {
        Check.sentence("II: held to 0 to 999");
        Check.due("998", forced(told(), "weigh 998").sum(0, 0), 998);
        Check.due("999", forced(told(), "weigh 999").sum(0, 0), 999);
        Check.due("1000", forced(told(), "weigh 1000").sum(0, 0), 999);
        Check.due("beyond 32 bits", forced(told(), "weigh 65536*65536+7").sum(0, 0), 999);
        Check.due("against it", forced(told(), "weigh 1000").sum(0, 1), -999);
    }

    private static void firstClauseThatHolds() {
        Check.sentence("II: the SUM of its first weigh CLAUSE without a TEST, or whose TEST holds");
        Check.due("the first", forced(told(), "weigh 3;weigh 4").sum(0, 0), 3);
        Check.due("behind a tell", forced(told(), "tell 9;weigh 4").sum(0, 0), 4);
        Check.due("the first that holds", forced(told(), "weigh 3 if 1=2;weigh 4 if 1=1;weigh 5").sum(0, 0), 4);
        Check.due("the first without", forced(told(), "weigh 3 if 1=2;weigh 5;weigh 4 if 1=1").sum(0, 0), 5);
        Check.due("the last of twelve", forced(told(), "weigh 3 if 1=2;".repeat(11) + "weigh 6").sum(0, 0), 6);
    }

    private static void believedAboveZero() {
        Check.sentence("II: A MARK is BELIEVED, if its SUM is above 0");
        OneMirror m = told();
        Check.due("1 and -1", m.person(0, 4), 1);
        m.retell(0, 1, 0);
        m.retell(1, 0, 3);
        Check.due("0 and 0", m.person(0, 4), 0);
        m.retell(1, 0, 3);
        Check.due("-1 and 1", m.person(0, 4), 2);
        Check.due("of nothing told", Check.withIsland(TWO).person(0, 4), 0);
    }

    private static void openAtZero() {
        Check.sentence("II: it is OPEN, if it is 0");
        OneMirror m = told();
        Check.due("1 and -1", m.person(0, 5), 0);
        m.retell(0, 1, 0);
        m.retell(1, 0, 1);
        Check.due("0 and -2", m.person(0, 5), 1);
        m.retell(1, 0, 3);
        Check.due("-1 and -1", m.person(0, 5), 0);
        Check.due("of nothing told", Check.withIsland(TWO).person(0, 5), 3);
        Check.due("of what counts nothing", forced(told(), "weigh 0").person(0, 5), 3);
    }

    private static void allTogether() {
        Check.sentence("II: the SUMS of all together");
        OneMirror m = forced(Check.withIsland(TWO), "weigh 999");
        for (int i = 0; i < 40; i++) {
            m.tell(-1, 1, 0, 0);
        }
        Check.due("40 times 999", m.sum(0, 0), 39960);
        Check.due("40 times -999", m.sum(0, 1), -39960);
    }
}
