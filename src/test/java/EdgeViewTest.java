/** The edges of promises 30 to 32: VIEWS, whom they fit, FACES and SWORN. */
public final class EdgeViewTest {
    private static final String THREE = "marks 3;person 5 0;person 2 0;person 7 0";

    private EdgeViewTest() {
    }

    public static void main(String[] args) {
        viewOfEachMark();
        viewOfNothing();
        viewBeyondTheMarks();
        viewThereBeyond();
        viewWithoutIsland();
        viewNone();
        eightViews();
        ninthView();
        fitsPeople();
        fitsNobody();
        fitsWithout();
        facesOfNone();
        facesOfEight();
        facesOfAnyMarks();
        facesEachByOne();
        swornOfNone();
        swornMost();
        viewsWithout();
        changesNothing();
        Check.finish();
    }

    private static OneMirror three() {
        return Check.withIsland(THREE);
    }

    private static void viewOfEachMark() {
        Check.sentence("III: MARKS that were seen (as bits), and of these those that are there; P30: how many");
        for (int seen = 1; seen < 8; seen++) {
            for (int there = 0; there < 8; there++) {
                boolean isWithin = (there | seen) == seen;
                Check.due("view " + seen + " " + there, three().view(seen, there), isWithin ? 1 : -2);
            }
        }
    }

    private static void viewOfNothing() {
        Check.sentence("P30: seen not empty; -2, and nothing happens, without these");
        Edge.nothing(Edge::rich, "view 0 0", m -> m.view(0, 0), -2);
        Edge.nothing(Edge::rich, "view 0 1", m -> m.view(0, 1), -2);
    }

    private static void viewBeyondTheMarks() {
        Check.sentence("P30: -2, and nothing happens, without these");
        for (int seen : new int[] {8, 9, 15, 64, -2, -8, Integer.MIN_VALUE, Integer.MAX_VALUE}) {
            Edge.nothing(Edge::rich, "seen " + seen, m -> m.view(seen, 0), -2);
        }
        Check.due("all MARKS", Edge.rich().view(7, 7), 3);
        Check.due("all of six", Check.withIsland("marks 6;person 0 0").view(63, 63), 1);
        Check.due("the second of one", Check.withIsland("marks 1;person 0 0").view(2, 0), -2);
    }

    private static void viewThereBeyond() {
        Check.sentence("P30: there within it; -2, and nothing happens, without these");
        for (int there : new int[] {2, 7, 8, -1, -8, Integer.MIN_VALUE, Integer.MAX_VALUE}) {
            Edge.nothing(Edge::rich, "there " + there, m -> m.view(5, there), -2);
        }
        Check.due("none of them", Edge.rich().view(5, 0), 3);
        Check.due("all of them", Edge.rich().view(5, 5), 3);
    }

    private static void viewWithoutIsland() {
        Check.sentence("P30: -2, and nothing happens, without these");
        Edge.nothing(OneMirror::new, "no ISLAND", m -> m.view(1, 1), -2);
        Edge.nothing(OneMirror::new, "there are none then", m -> m.view(-1, 1), 0);
    }

    private static void viewNone() {
        Check.sentence("P30: seen NONE: there are none then, 0");
        OneMirror m = Edge.rich();
        Check.due("none", m.view(-1, 99), 0);
        Check.due("VIEWS", m.count(8), 0);
        Check.due("fits", m.fits(0), -1);
        Check.due("none again", m.view(-1, -1), 0);
        Check.due("the first anew", m.view(4, 4), 1);
        Check.due("it takes no HOUR", m.count(4), 7);
        Check.due("it is no ACT", m.count(9), 10);
    }

    private static OneMirror eight() {
        OneMirror m = Edge.rich();
        for (int i = 2; i < 8; i++) {
            m.view(7, i);
        }
        return m;
    }

    private static void eightViews() {
        Check.sentence("III: VIEWS, 8 at most");
        OneMirror m = three();
        for (int i = 1; i <= 8; i++) {
            Check.due("view", m.view(1, 1), i);
            Check.due("VIEWS", m.count(8), i);
        }
    }

    private static void ninthView() {
        Check.sentence("P30: -2, and nothing happens, if there are 8");
        Edge.nothing(EdgeViewTest::eight, "view", m -> m.view(1, 0), -2);
        OneMirror m = eight();
        Check.due("none", m.view(-1, 0), 0);
        Check.due("view", m.view(1, 0), 1);
    }

    private static void fitsPeople() {
        Check.sentence("P31: PEOPLE whose FACE a VIEW can be, as bits");
        OneMirror m = three();
        m.view(1, 1);
        m.view(1, 0);
        m.view(7, 7);
        m.view(2, 2);
        int[] due = {5, 2, 4, 6};
        for (int view = 0; view < 4; view++) {
            Check.due("fits " + view, m.fits(view), due[view]);
        }
        OneMirror all = Check.withIsland("marks 1" + ";person 1 0".repeat(8));
        all.view(1, 1);
        Check.due("all eight", all.fits(0), 255);
    }

    private static void fitsNobody() {
        Check.sentence("P31: PEOPLE whose FACE a VIEW can be, as bits");
        OneMirror m = three();
        m.view(7, 0);
        Check.due("nobody", m.fits(0), 0);
    }

    private static void fitsWithout() {
        Check.sentence("P31: NONE without it");
        Check.due("no ISLAND", new OneMirror().fits(0), -1);
        Check.due("no VIEW", three().fits(0), -1);
        Check.due("2 of two", Edge.rich().fits(2), -1);
        Check.due("-1", Edge.rich().fits(-1), -1);
        Check.due("8 of eight", eight().fits(8), -1);
        Check.due("7 of eight", eight().fits(7), 4);
        for (int far : Edge.FAR) {
            Check.due("fits " + far, Edge.rich().fits(far), -1);
        }
    }

    private static void facesOfNone() {
        Check.sentence("III: FACES: the fewest by which all VIEWS can be");
        Check.due("no VIEW", three().views(0), 0);
        OneMirror m = three();
        m.view(7, 0);
        Check.due("one VIEW", m.views(0), 1);
    }

    private static void facesOfEight() {
        Check.sentence("III: FACES: the fewest by which all VIEWS can be");
        OneMirror m = three();
        OneMirror same = three();
        for (int i = 0; i < 8; i++) {
            m.view(7, 7 - i);
            same.view(7, 3);
            Check.due("each another one", m.views(0), i + 1);
            Check.due("each the same", same.views(0), 1);
        }
        OneMirror six = Check.withIsland("marks 6;person 0 0");
        for (int i = 0; i < 8; i++) {
            six.view(63, 63 - i);
            Check.due("of 64", six.views(0), i + 1);
        }
    }

    private static void facesOfAnyMarks() {
        Check.sentence("III: of any MARKS, PEOPLE's or not");
        OneMirror m = three();
        m.view(5, 4);
        m.view(2, 0);
        Check.due("nobody's", m.fits(0), 0);
        Check.due("of one FACE", m.views(0), 1);
    }

    private static void facesEachByOne() {
        Check.sentence("III: each by one");
        OneMirror m = three();
        // 1.. and .1. can be of one FACE, and so can .1. and 0.. - but not all three
        m.view(1, 1);
        m.view(2, 2);
        m.view(1, 0);
        Check.due("two", m.views(0), 2);
        m.view(3, 0);
        Check.due("two still", m.views(0), 2);
        m.view(3, 2);
        Check.due("three", m.views(0), 3);
    }

    private static void swornOfNone() {
        Check.sentence("III: SWORN: PEOPLE whose FACE most VIEWS can be of; how many VIEWS");
        Check.due("no VIEW: all as many", three().views(1), 7);
        Check.due("no VIEW", three().views(2), 0);
        OneMirror m = three();
        m.view(7, 0);
        Check.due("of nobody's: all as many", m.views(1), 7);
        Check.due("of nobody's", m.views(2), 0);
    }

    private static void swornMost() {
        Check.sentence("P32: 1: SWORN, as bits, 2: how many VIEWS these can be");
        OneMirror m = three();
        m.view(1, 1);
        Check.due("0 and 2", m.views(1), 5);
        Check.due("one", m.views(2), 1);
        m.view(2, 2);
        Check.due("2 alone", m.views(1), 4);
        Check.due("two", m.views(2), 2);
        m.view(5, 0);
        Check.due("1 as many", m.views(1), 6);
        for (int i = 3; i < 8; i++) {
            m.view(7, 5);
        }
        Check.due("0 alone", m.views(1), 1);
        Check.due("six", m.views(2), 6);
    }

    private static void viewsWithout() {
        Check.sentence("P32: NONE without these, or an ISLAND");
        for (int what = 0; what < 3; what++) {
            Check.due("no ISLAND, " + what, new OneMirror().views(what), -1);
        }
        Check.due("what 3", Edge.rich().views(3), -1);
        Check.due("what -1", Edge.rich().views(-1), -1);
        for (int far : Edge.FAR) {
            Check.due("what " + far, Edge.rich().views(far), -1);
        }
    }

    private static void changesNothing() {
        Check.sentence("III: By what is asked nothing changes");
        for (int i = -1; i < 4; i++) {
            int what = i;
            Edge.asked(EdgeViewTest::eight, "views " + what, m -> m.views(what));
            Edge.asked(EdgeViewTest::eight, "fits " + what, m -> m.fits(what));
        }
    }
}
