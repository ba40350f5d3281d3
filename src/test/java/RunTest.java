/** Promise 21: hours that go by a RULE. */
public final class RunTest {
    private static final String ISLAND = "marks 3;person 5 0;person 2 0;person 7 0;"
        + "tie 1 0 3;tie 2 0 3;tie 0 1 2;boat 0 1;boat 1 2;glass 0";

    private RunTest() {
    }

    public static void main(String[] args) {
        glassGoesAndAllLook();
        whoHeedsMost();
        kept();
        ruleInForceWeighs();
        forty();
        refused();
        notUndone();
        alone();
        Check.finish();
    }

    private static OneMirror made() {
        OneMirror m = Check.withIsland(ISLAND);
        Check.rule(m, "tell face + 1 if tie > 2");
        return m;
    }

    private static void told(OneMirror m, int telling, int... due) {
        for (int what = 0; what < due.length; what++) {
            Check.due("telling " + telling + " " + what, m.telling(telling, what), due[what]);
        }
    }

    private static void glassGoesAndAllLook() {
        OneMirror m = made();
        Check.due("run 1", m.run(0, 1), 1);
        Check.due("GLASS", m.count(5), 1);
        Check.due("HOUR", m.count(4), 1);
        Check.due("run 1", m.run(0, 1), 2);
        Check.due("GLASS", m.count(5), 2);
        Check.due("run 4", m.run(0, 4), 5);
        Check.due("GLASS stays: 1 has looked", m.count(5), 2);
        Check.due("HOUR", m.count(4), 6);
        told(m, 0, 0, 0, 0, 5, 0, -1, 1);
        told(m, 1, 1, 1, 1, 2, 1, -1, 1);
        told(m, 2, 2, 2, 2, 7, 2, -1, 1);
        // hour 3: 0 tells; 1 and 2 heed them alike; hour 5: nobody heeds 2
        told(m, 3, 0, 1, 1, 3, 3, -1, 0);
        told(m, 4, 1, 0, 0, 5, 4, -1, 0);
        Check.due("no RULE in force", m.count(3), -1);
    }

    private static void whoHeedsMost() {
        OneMirror m = Check.withIsland("marks 1;person 1 0;person 0 0;person 1 0;person 0 0;"
            + "tie 1 0 2;tie 2 0 5;tie 3 0 5;tie 0 3 1;glass 2");
        Check.rule(m, "tell 1 - face");
        Check.due("run 5", m.run(0, 5), 3);
        told(m, 0, 2, 2, 2, 1, 0, -1, 1);
        told(m, 1, 3, 0, 0, 0, 3, -1, 0);
        told(m, 2, 0, 2, 2, 0, 4, -1, 0);
        Check.due("no BOAT: it stays", m.count(5), 2);
    }

    private static void kept() {
        OneMirror m = made();
        m.keep(true);
        Check.due("run 5", m.run(0, 5), 4);
        Check.due("GLASS", m.count(5), 0);
        Check.due("KEPT", m.person(0, 6), 1);
        told(m, 0, 0, 0, 0, 5, 0, -1, 1);
        told(m, 1, 1, 0, 0, 5, 1, -1, 0);
        told(m, 2, 0, 1, 1, 3, 3, -1, 0);
        told(m, 3, 1, 0, 0, 5, 4, -1, 0);
        m.keep(false);
        Check.due("on it goes", m.run(0, 1), 4);
        Check.due("GLASS", m.count(5), 1);
        Check.due("and is looked into", m.run(0, 1), 5);
        told(m, 4, 1, 1, 1, 2, 6, -1, 1);
    }

    private static void ruleInForceWeighs() {
        OneMirror m = made();
        Check.rule(m, "tell 0;weigh 7");
        m.force(1);
        m.run(0, 6);
        Check.due("told by rule 0, weighed by rule 1", m.sum(1, 0), 0);
        Check.due("told by rule 0, weighed by rule 1", m.sum(1, 1), 14);
    }

    private static void forty() {
        OneMirror m = Check.withIsland("marks 1;person 1 0;person 0 0;boat 0 1;tie 1 0 1;tie 0 1 1");
        Check.rule(m, "tell 1");
        for (int i = 0; i < 40; i++) {
            m.tell(-1, 0, 1, 1);
        }
        Check.due("no more come", m.run(0, 2), 40);
        Check.due("the GLASS goes on", m.count(5), 0);
        Check.due("HOUR", m.count(4), 42);
        Check.due("nobody LOOKED", m.person(0, 3) + m.person(1, 3), 0);
        OneMirror n = Check.withIsland("marks 1;person 1 0;person 0 0;boat 0 1;tie 1 0 1;tie 0 1 1");
        Check.rule(n, "tell 1");
        Check.due("up to 40", n.run(0, 60), 40);
    }

    private static void refused() {
        OneMirror m = made();
        m.rest();
        Check.due("n 0", m.run(0, 0), -1);
        Check.due("n 61", m.run(0, 61), -1);
        Check.due("n -1", m.run(0, -1), -1);
        Check.due("n greatest", m.run(0, Integer.MAX_VALUE), -1);
        Check.due("rule 1", m.run(1, 1), -1);
        Check.due("rule NONE", m.run(-1, 1), -1);
        Check.due("rule -2", m.run(-2, 1), -1);
        Check.due("HOUR", m.count(4), 1);
        Check.due("it can still be undone", m.count(9), 1);
        OneMirror n = new OneMirror();
        Check.rule(n, "tell 1");
        Check.due("no ISLAND", n.run(0, 1), -1);
    }

    private static void notUndone() {
        OneMirror m = made();
        m.rest();
        m.run(0, 60);
        Check.due("ACTS", m.count(9), 0);
        Check.due("undo", m.undo(), -1);
        m.rest();
        Check.due("undo", m.undo(), 0);
        Check.due("HOUR", m.count(4), 61);
    }

    private static void alone() {
        OneMirror m = Check.withIsland("marks 1;person 1 0");
        Check.rule(m, "tell 1");
        Check.due("one LOOK", m.run(0, 3), 1);
        Check.due("HOUR", m.count(4), 3);
    }
}
