/** The edges of promise 21: n HOURS BY A RULE. */
public final class EdgeRunTest {
    private EdgeRunTest() {
    }

    public static void main(String[] args) {
        oneToSixtyHours();
        hoursBeyond();
        withoutARule();
        withoutIsland();
        toTheLastHour();
        beyondTheLastHour();
        looksOnceEach();
        nobodyTellsInTheHourOfALook();
        numberGoesRound();
        heedsMostLeast();
        nobodyHeeds();
        glassGoesToTheLeast();
        glassHasNowhereToGo();
        glassIsKept();
        thirtyNineTellings();
        fortyTellings();
        cantBeUndone();
        needNotBeInForce();
        Check.finish();
    }

    private static void told(OneMirror m, int telling, int... due) {
        for (int what = 0; what < due.length; what++) {
            Check.due("TELLING " + telling + " " + what, m.telling(telling, what), due[what]);
        }
    }

    private static OneMirror ruled(String island) {
        OneMirror m = Check.withIsland(island);
        Check.rule(m, "tell face");
        return m;
    }

    private static void oneToSixtyHours() {
        Check.sentence("P21: n HOURS (1 to 60): TELLINGS there are then");
        OneMirror m = ruled("marks 1;person 1 0");
        Check.due("run 1", m.run(0, 1), 1);
        Check.due("HOUR", m.count(4), 1);
        Check.due("run 60", m.run(0, 60), 1);
        Check.due("HOUR", m.count(4), 61);
    }

    private static void hoursBeyond() {
        Check.sentence("P21: n HOURS (1 to 60); NONE, and nothing happens, without these");
        for (int n : new int[] {0, -1, 61, 62, Integer.MIN_VALUE, Integer.MAX_VALUE}) {
            Edge.nothing(Edge::rich, "run " + n, m -> m.run(1, n), -1);
        }
    }

    private static void withoutARule() {
        Check.sentence("P21: BY A RULE; NONE, and nothing happens, without these");
        for (int rule : new int[] {2, 6, -1, -2, Integer.MIN_VALUE, Integer.MAX_VALUE}) {
            Edge.nothing(Edge::rich, "RULE " + rule, m -> m.run(rule, 1), -1);
        }
    }

    private static void withoutIsland() {
        Check.sentence("P21: NONE, and nothing happens, without these (no ISLAND)");
        Edge.nothing(() -> Edge.with(OneMirror::new, m -> Check.rule(m, "tell 1")), "run", m -> m.run(0, 1), -1);
    }

    private static void toTheLastHour() {
        Check.sentence("P21: NONE if HOUR would be above 9999");
        OneMirror m = Edge.quiet(9940);
        Check.due("run 59", m.run(0, 59), m.count(6));
        Check.due("HOUR", m.count(4), 9999);
        OneMirror n = Edge.quiet(9939);
        Check.due("run 60", n.run(0, 60), n.count(6));
        Check.due("HOUR", n.count(4), 9999);
    }

    private static void beyondTheLastHour() {
        Check.sentence("P21: NONE, and nothing happens, if HOUR would be above 9999");
        Edge.nothing(() -> Edge.quiet(9999), "1 at 9999", m -> m.run(0, 1), -1);
        Edge.nothing(() -> Edge.quiet(9998), "2 at 9998", m -> m.run(0, 2), -1);
        Edge.nothing(() -> Edge.quiet(9940), "60 at 9940", m -> m.run(0, 60), -1);
    }

    private static void looksOnceEach() {
        Check.sentence("II: who has the GLASS LOOKS, if they never did");
        OneMirror m = ruled("marks 1;person 1 0;person 0 0;boat 0 1");
        Check.due("run 5", m.run(0, 5), 2);
        told(m, 0, 0, 0, 0, 1, 0, -1, 1);
        told(m, 1, 1, 1, 1, 0, 1, -1, 1);
        OneMirror n = ruled("marks 1;person 1 0;person 0 0;boat 0 1");
        n.look();
        n.undo();
        Check.due("a LOOK that was undone was none", n.run(0, 1), 1);
        OneMirror o = ruled("marks 1;person 1 0;person 0 0;boat 0 1");
        o.look();
        Check.due("one by hand was one", o.run(0, 1), 1);
    }

    private static void nobodyTellsInTheHourOfALook() {
        Check.sentence("II: if they did (ahead of this HOUR), the PERSON tells");
        OneMirror m = ruled("marks 1;person 1 0;person 0 0;tie 1 0 1;tie 0 1 1");
        Check.due("a LOOK alone", m.run(0, 1), 1);
        Check.due("one tells", m.run(0, 1), 2);
        told(m, 1, 1, 0, 0, 1, 1, -1, 0);
    }

    private static void numberGoesRound() {
        Check.sentence("II: the PERSON whose number is HOUR mod PEOPLE");
        OneMirror m = ruled("marks 1;person 1 0;person 0 0;person 1 0;tie 1 0 1;tie 2 1 1;tie 0 2 1");
        m.look();
        Check.due("run 6", m.run(0, 6), 7);
        for (int t = 1; t < 7; t++) {
            told(m, t, t % 3, (t + 1) % 3, (t + 1) % 3, (t + 1) % 3 == 1 ? 0 : 1, t, -1, 0);
        }
    }

    private static void heedsMostLeast() {
        Check.sentence("II: the one of the others who heeds them most (of several the least)");
        OneMirror m = ruled("marks 1;person 1 0;person 0 0;person 1 0;person 0 0;tie 1 0 2;tie 2 0 9;tie 3 0 9");
        m.look();
        m.rest();
        m.rest();
        m.rest();
        Check.due("run", m.run(0, 1), 2);
        told(m, 1, 0, 2, 2, 1, 4, -1, 0);
    }

    private static void nobodyHeeds() {
        Check.sentence("II: nobody does: none");
        OneMirror m = ruled("marks 1;person 1 0;person 0 0;tie 0 1 9");
        m.look();
        m.rest();
        Check.due("0 heeds, but is heeded by nobody", m.run(0, 1), 1);
        Check.due("HOUR", m.count(4), 3);
        Check.due("one alone", ruled("marks 1;person 1 0").run(0, 60), 1);
    }

    private static void glassGoesToTheLeast() {
        Check.sentence("II: the GLASS goes to the least PERSON to whom a BOAT goes from there and who never LOOKED");
        OneMirror m = ruled("marks 1;person 1 0;person 0 0;person 1 0;person 0 0;boat 3 2;boat 3 1;boat 2 0;glass 3");
        m.run(0, 1);
        Check.due("GLASS", m.count(5), 1);
        m.run(0, 1);
        Check.due("3 has LOOKED: it stays", m.count(5), 1);
        m.give(3);
        m.run(0, 1);
        Check.due("1 has LOOKED: to 2", m.count(5), 2);
        m.run(0, 1);
        Check.due("to 0", m.count(5), 0);
    }

    private static void glassHasNowhereToGo() {
        Check.sentence("II: none: it stays");
        OneMirror m = ruled("marks 1;person 1 0;person 0 0;person 1 0;boat 1 2;glass 0");
        m.run(0, 3);
        Check.due("no BOAT", m.count(5), 0);
        OneMirror n = ruled("marks 1;person 1 0;person 0 0;boat 0 1");
        n.run(0, 60);
        Check.due("all have LOOKED", n.count(5), 1);
    }

    private static void glassIsKept() {
        Check.sentence("II: it is KEPT: it stays");
        OneMirror m = ruled("marks 1;person 1 0;person 0 0;boat 0 1");
        m.keep(true);
        Check.due("run 3", m.run(0, 3), 1);
        Check.due("GLASS", m.count(5), 0);
        Check.due("KEPT", m.person(0, 6), 1);
        m.keep(false);
        m.run(0, 1);
        Check.due("no more", m.count(5), 1);
    }

    /** 0 has LOOKED, and each tells the other; no boat goes. */
    private static OneMirror withTellings(int n) {
        OneMirror m = ruled("marks 1;person 1 0;person 0 0;person 1 0;tie 1 0 1;tie 0 1 1;tie 0 2 1;boat 1 2;glass 0");
        m.look();
        for (int i = 1; i < n; i++) {
            m.tell(-1, 0, 1, 1);
        }
        return m;
    }

    private static void thirtyNineTellings() {
        Check.sentence("II: If there are 40 TELLINGS, no more come");
        OneMirror m = withTellings(39);
        Check.due("one more comes", m.run(0, 3), 40);
        told(m, 39, 0, 1, 1, 0, 39, -1, 0);
        Check.due("HOUR", m.count(4), 42);
    }

    private static void fortyTellings() {
        Check.sentence("II: If there are 40 TELLINGS, no more come");
        OneMirror m = withTellings(40);
        Check.due("none comes", m.run(0, 60), 40);
        Check.due("HOUR", m.count(4), 100);
        OneMirror n = ruled("marks 1;person 1 0;person 0 0;person 1 0;boat 0 1;boat 1 2");
        for (int i = 0; i < 40; i++) {
            n.tell(-1, 0, 1, 1);
        }
        Check.due("no LOOK comes", n.run(0, 1), 40);
        Check.due("LOOKED", n.person(0, 3), 0);
        Check.due("the GLASS goes on", n.count(5), 1);
        n.run(0, 1);
        Check.due("to the least who never LOOKED", n.count(5), 0);
        Check.due("HOUR", n.count(4), 42);
    }

    private static void cantBeUndone() {
        Check.sentence("II: These can't be UNDONE: nothing that was done ahead of them can, either");
        OneMirror m = Edge.rich();
        Check.due("run", m.run(1, 1) >= 4, true);
        Check.due("ACTS", m.count(9), 0);
        Check.due("undo", m.undo(), -1);
        Check.due("HOUR", m.count(4), 8);
        m.rest();
        Check.due("undo what comes behind", m.undo(), 0);
        Check.due("HOUR", m.count(4), 8);
    }

    private static void needNotBeInForce() {
        Check.sentence("II: it need not be IN FORCE");
        OneMirror m = ruled("marks 2;person 1 0;person 2 0;tie 1 0 1;tie 0 1 1");
        Check.rule(m, "tell 3;weigh 7");
        Check.rule(m, "weigh 5");
        m.force(2);
        m.look();
        Check.due("run", m.run(1, 1), 2);
        told(m, 1, 1, 0, 0, 3, 1, -1, 0);
        Check.due("weighed by the RULE IN FORCE", m.sum(0, 0), 10);
        Check.due("IN FORCE", m.count(3), 2);
    }
}
