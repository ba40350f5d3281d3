/** Promises 30 to 32: VIEWS in a cracked glass. */
public final class ViewTest {
    private static final String THREE = "marks 3;person 5 0;person 2 0;person 7 0";

    private ViewTest() {
    }

    public static void main(String[] args) {
        views();
        viewsRefused();
        fits();
        fewestFaces();
        sworn();
        Check.finish();
    }

    private static void views() {
        OneMirror m = Check.withIsland(THREE);
        for (int i = 1; i <= 8; i++) {
            Check.due("view", m.view(7, i - 1), i);
        }
        Check.due("ninth", m.view(1, 0), -2);
        Check.due("eight FACES", m.views(0), 8);
        Check.due("VIEWS", m.count(8), 8);
        Check.due("none", m.view(-1, 77), 0);
        Check.due("VIEWS", m.count(8), 0);
        Check.due("view", m.view(1, 1), 1);
        Check.due("no ACT", m.count(9), 0);
    }

    private static void viewsRefused() {
        OneMirror m = Check.withIsland(THREE);
        Check.due("empty", m.view(0, 0), -2);
        Check.due("seen 8", m.view(8, 0), -2);
        Check.due("seen -2", m.view(-2, 0), -2);
        Check.due("there beyond", m.view(5, 2), -2);
        Check.due("there beyond", m.view(5, 7), -2);
        Check.due("there 8", m.view(7, 8), -2);
        Check.due("there -1", m.view(7, -1), -2);
        Check.due("there least", m.view(7, Integer.MIN_VALUE), -2);
        Check.due("VIEWS", m.count(8), 0);
        Check.due("what 3", m.views(3), -1);
        Check.due("what -1", m.views(-1), -1);
        Check.due("fits 0", m.fits(0), -1);
        Check.due("fits -1", m.fits(-1), -1);
    }

    private static OneMirror seen() {
        OneMirror m = Check.withIsland(THREE);
        m.view(1, 1);
        m.view(6, 2);
        m.view(7, 0);
        m.view(2, 0);
        return m;
    }

    private static void fits() {
        OneMirror m = seen();
        Check.due("mark 0 there", m.fits(0), 5);
        Check.due("mark 1 there, 2 not", m.fits(1), 2);
        Check.due("nobody", m.fits(2), 0);
        Check.due("mark 1 not there", m.fits(3), 1);
        Check.due("4", m.fits(4), -1);
        Check.due("-1", m.fits(-1), -1);
        Check.due("far", m.fits(Integer.MAX_VALUE), -1);
    }

    private static void fewestFaces() {
        OneMirror m = Check.withIsland(THREE);
        Check.due("of none", m.views(0), 0);
        m.view(1, 1);
        Check.due("of one", m.views(0), 1);
        Check.due("011 and 000", seen().views(0), 2);
        // of three marks two and two can be together in three ways; the third pair decides
        m.view(2, 2);
        m.view(3, 0);
        Check.due("11 and 00", m.views(0), 2);
        m.view(3, 1);
        m.view(3, 2);
        Check.due("00, 01 and 10", m.views(0), 3);
        m.view(3, 3);
        Check.due("all four", m.views(0), 4);
        m.view(4, 0);
        m.view(4, 4);
        Check.due("all four still", m.views(0), 4);
        // to put each view to the first that it can be with would take three
        OneMirror n = Check.withIsland("marks 4;person 0 0");
        n.view(1, 1);
        n.view(2, 2);
        n.view(7, 5);
        n.view(11, 2);
        Check.due("two", n.views(0), 2);
    }

    private static void sworn() {
        OneMirror m = Check.withIsland(THREE);
        Check.due("of no VIEW all alike", m.views(1), 7);
        Check.due("none", m.views(2), 0);
        Check.due("who", seen().views(1), 1);
        Check.due("how many", seen().views(2), 2);
        m.view(1, 1);
        Check.due("two of them", m.views(1), 5);
        Check.due("one", m.views(2), 1);
        m.view(3, 3);
        Check.due("one of them", m.views(1), 4);
        Check.due("two", m.views(2), 2);
        OneMirror n = Check.withIsland("marks 1;person 0 0;person 0 0");
        n.view(1, 1);
        Check.due("can be nobody's: all alike", n.views(1), 3);
        Check.due("none", n.views(2), 0);
    }
}
