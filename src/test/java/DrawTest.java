/** Promises 33 and 34: x, and hours by DRAWS. From 0 the draws are 0 21468 9988 22117 3498 16927 16045 19741. */
public final class DrawTest {
    private static final String TWO = "marks 2;person 1 0;person 2 0;glass 0";

    private DrawTest() {
    }

    public static void main(String[] args) {
        seed();
        oneHour();
        slips();
        times();
        byRule();
        nothingStays();
        fullOfTellings();
        refused();
        Check.finish();
    }

    private static void seed() {
        OneMirror m = new OneMirror();
        Check.due("0 at first", m.seed(5), 0);
        Check.due("what it was", m.seed(Integer.MAX_VALUE), 5);
        Check.due("below 0", m.seed(-1), -1);
        Check.due("least", m.seed(Integer.MIN_VALUE), -1);
        Check.due("what it was", m.seed(0), Integer.MAX_VALUE);
        Check.due("x", m.count(10), 0);
    }

    private static void oneHour() {
        OneMirror m = Check.withIsland(TWO);
        // both are 0, who has the GLASS
        Check.due("0 knows", m.drawn(-1, 1, 1, 0, 0), 1);
        Check.due("MARKS of 1", m.drawn(-1, 1, 1, 0, 1), 2);
        OneMirror n = Check.withIsland("marks 2;person 1 0;person 2 0;glass 1");
        Check.due("0 does not have it", n.drawn(-1, 1, 1, 0, 0), 0);
        Check.due("all OPEN", n.drawn(-1, 1, 1, 0, 1), 4);
        OneMirror o = Check.withIsland("marks 2;person 0 0;person 2 0;glass 1");
        Check.due("OPEN is not there", o.drawn(-1, 1, 1, 0, 0), 1);
    }

    private static void slips() {
        OneMirror m = Check.withIsland(TWO);
        // in hour 1 person 0 tells 1; then 98 for mark 0, 27 for mark 1
        Check.due("no slip", m.drawn(-1, 1, 2, 0, 0), 2);
        Check.due("none OPEN", m.drawn(-1, 1, 2, 0, 1), 0);
        Check.due("27 is not below 27", m.drawn(-1, 1, 2, 27, 0), 2);
        Check.due("27 is below 28", m.drawn(-1, 1, 2, 28, 0), 1);
        Check.due("98 too", m.drawn(-1, 1, 2, 100, 0), 1);
        OneMirror n = Check.withIsland("marks 2;person 1 0;person 1 0;glass 0");
        // 1 slips to 3 by mark 1, to 2 by both
        Check.due("mark 1 slips", n.drawn(-1, 1, 2, 98, 0), 1);
        Check.rule(n, "tell 2 if face = 1");
        Check.due("told 2, slips to 1", n.drawn(0, 1, 2, 99, 0), 2);
        Check.due("told 2, slips to 0", n.drawn(0, 1, 2, 98, 0), 1);
    }

    private static void times() {
        OneMirror m = Check.withIsland(TWO);
        // the second time begins with 9988 and 22117: 0 tells 1, and nobody looks
        Check.due("one each", m.drawn(-1, 2, 1, 0, 0), 2);
        Check.due("two each", m.drawn(-1, 2, 1, 0, 1), 4);
        // the third with 16045 and 19741: 1 and 1, who does not have the GLASS
        Check.due("one each, then none", m.drawn(-1, 3, 1, 0, 0), 2);
        Check.due("two each, then all", m.drawn(-1, 3, 1, 0, 1), 8);
        m.seed(12345);
        // 21468 and 9988: 0 and 0; 22117 and 3498: 1 tells 0
        Check.due("from another x", m.drawn(-1, 1, 1, 0, 0), 1);
        Check.due("from another x", m.drawn(-1, 2, 1, 0, 0), 2);
    }

    private static void byRule() {
        OneMirror m = Check.withIsland(TWO);
        Check.rule(m, "tell 3");
        Check.rule(m, "weigh 0");
        Check.due("told 3", m.drawn(0, 1, 2, 0, 0), 1);
        m.force(1);
        Check.due("nothing counts", m.drawn(-1, 1, 2, 0, 0), 0);
        Check.due("all OPEN", m.drawn(-1, 1, 2, 0, 1), 4);
        m.force(-1);
        Check.rule(m, "weigh 1 if hour = 5;weigh 0");
        m.force(2);
        Check.due("at the end it is hour 2", m.drawn(-1, 1, 2, 0, 1), 4);
        m.rest();
        m.rest();
        m.rest();
        Check.due("at the end it is hour 5", m.drawn(-1, 1, 2, 0, 1), 0);
    }

    private static void nothingStays() {
        OneMirror m = Check.withIsland(TWO);
        m.seed(99);
        m.tell(-1, 0, 1, 1);
        m.wish(0, 0, 0, 1);
        m.view(1, 1);
        m.drawn(-1, 20, 60, 50, 0);
        int[] due = {2, 2, 0, -1, 1, 0, 1, 1, 1, 1, 99, 0};
        for (int what = 0; what < due.length; what++) {
            Check.due("count " + what, m.count(what), due[what]);
        }
        Check.due("the same again", m.drawn(-1, 20, 60, 50, 0), m.drawn(-1, 20, 60, 50, 0));
        Check.due("undo", m.undo(), 0);
        Check.due("TELLINGS", m.count(6), 0);
    }

    private static void fullOfTellings() {
        OneMirror m = Check.withIsland(TWO);
        for (int i = 0; i < 40; i++) {
            m.tell(-1, 0, 1, 0);
        }
        Check.due("nobody is told of themselves", m.drawn(-1, 3, 20, 100, 1), 12);
        m.undo();
        // hour 0: 0 looks; then there are 40
        Check.due("one more", m.drawn(-1, 1, 20, 100, 1), 2);
    }

    private static void refused() {
        OneMirror m = Check.withIsland(TWO);
        Check.due("rule 0", m.drawn(0, 1, 1, 0, 0), -1);
        Check.due("rule -2", m.drawn(-2, 1, 1, 0, 0), -1);
        Check.due("m 0", m.drawn(-1, 0, 1, 0, 0), -1);
        Check.due("m 21", m.drawn(-1, 21, 1, 0, 0), -1);
        Check.due("n 0", m.drawn(-1, 1, 0, 0, 0), -1);
        Check.due("n 61", m.drawn(-1, 1, 61, 0, 0), -1);
        Check.due("p -1", m.drawn(-1, 1, 1, -1, 0), -1);
        Check.due("p 101", m.drawn(-1, 1, 1, 101, 0), -1);
        Check.due("what 2", m.drawn(-1, 1, 1, 0, 2), -1);
        Check.due("what -1", m.drawn(-1, 1, 1, 0, -1), -1);
        Check.due("far", m.drawn(-1, Integer.MAX_VALUE, Integer.MIN_VALUE, 0, 0), -1);
        OneMirror n = new OneMirror();
        Check.rule(n, "tell 1");
        Check.due("no ISLAND", n.drawn(0, 1, 1, 0, 0), -1);
    }
}
