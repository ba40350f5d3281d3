/** Promises 36 and 37: IMAGES, and what is gone back to. */
public final class ImageTest {
    private ImageTest() {
    }

    public static void main(String[] args) {
        refused();
        withoutIsland();
        allIsHeld();
        tapeAndRulesStay();
        fourOfThem();
        nothingToUndo();
        Check.finish();
    }

    private static void refused() {
        OneMirror m = Check.withIsland("marks 1;person 1 0");
        m.rest();
        for (int k = 0; k < 4; k++) {
            Check.due("never made", m.back(k), -1);
        }
        Check.due("back 4", m.back(4), -1);
        Check.due("back -1", m.back(-1), -1);
        Check.due("image 4", m.image(4), -1);
        Check.due("image -1", m.image(-1), -1);
        Check.due("image far", m.image(Integer.MAX_VALUE), -1);
        Check.due("back least", m.back(Integer.MIN_VALUE), -1);
        Check.due("nothing happened", m.count(9), 1);
        Check.due("image 3", m.image(3), 1);
        Check.due("never made", m.back(2), -1);
    }

    private static void withoutIsland() {
        OneMirror m = new OneMirror();
        m.seed(4);
        Check.due("image", m.image(0), 0);
        Check.island(m, "marks 2;person 1 0;person 0 0");
        m.rest();
        m.seed(8);
        Check.due("back", m.back(0), 0);
        Check.due("no ISLAND", m.count(1), 0);
        Check.due("no GLASS", m.count(5), -1);
        Check.due("no MARKS", m.count(0), 0);
        Check.due("x", m.count(10), 4);
        Check.due("look", m.look(), -1);
    }

    private static OneMirror lived() {
        OneMirror m = Check.withIsland("marks 2;person 1 10;person 2 20;person 3 30;tie 0 1 4;boat 0 1;glass 1");
        Check.rule(m, "weigh 3");
        m.force(0);
        m.look();
        m.tell(-1, 1, 0, 0);
        m.save();
        m.save();
        m.sell(1, 2, 5);
        m.keep(true);
        m.wish(0, 1, 2, 3);
        m.view(2, 2);
        m.seed(17);
        return m;
    }

    private static void isAsLived(OneMirror m) {
        int[] due = {2, 3, 1, 0, 4, 1, 2, 1, 1, 0, 17, 0};
        for (int what = 0; what < due.length; what++) {
            Check.due("count " + what, m.count(what), due[what]);
        }
        int[][] people = {{1, 10, 0, 0, 1, 0, 0, 2}, {2, 25, 1, 1, 2, 0, 1, 1}, {3, 25, 1, 0, 0, 3, 0, 0}};
        for (int p = 0; p < 3; p++) {
            for (int what = 0; what < 8; what++) {
                Check.due("person " + p + " " + what, m.person(p, what), people[p][what]);
            }
        }
        int[] telling = {1, 0, 0, 1, 1, -1, 0};
        for (int what = 0; what < 7; what++) {
            Check.due("telling 1 " + what, m.telling(1, what), telling[what]);
        }
        Check.due("tie", m.tie(0, 1), 4);
        Check.due("sum", m.sum(0, 0), 3);
        Check.due("round", m.round(2, -1), 3);
        Check.due("fits", m.fits(0), 6);
    }

    private static void allIsHeld() {
        OneMirror m = lived();
        Check.due("image", m.image(1), 4);
        isAsLived(m);
        m.spend(2);
        m.tell(-1, 0, 1, 1);
        m.retell(1, 2, 1);
        m.wish(-1, 0, 0, 0);
        m.view(1, 1);
        m.seed(18);
        m.force(-1);
        Check.due("back", m.back(1), 4);
        isAsLived(m);
        Check.island(m, "marks 6;person 63 1;person 62 1;person 61 1;person 60 1;tie 3 2 9;tie 0 1 8;boat 2 3;glass 3");
        m.force(-1);
        m.look();
        m.save();
        Check.due("back again", m.back(1), 4);
        isAsLived(m);
        Check.due("no fourth", m.person(3, 0), -1);
        Check.due("it goes on from there", m.rest(), 5);
        Check.due("and back", m.back(1), 4);
        isAsLived(m);
    }

    private static void tapeAndRulesStay() {
        OneMirror m = lived();
        m.image(0);
        Check.rule(m, "weigh 5");
        m.force(1);
        m.feed(1, 2, 3, 4, 5);
        Check.due("back", m.back(0), 4);
        Check.due("RULES", m.count(2), 2);
        Check.due("TAPE", m.count(11), 20);
        Check.due("IN FORCE as it was", m.count(3), 0);
        Check.due("rule 1 is there", m.force(1), 0);
        Check.due("sum", m.sum(0, 0), 5);
    }

    private static void fourOfThem() {
        OneMirror m = Check.withIsland("marks 1;person 1 0");
        for (int k = 0; k < 4; k++) {
            Check.due("image", m.image(k), k);
            m.rest();
        }
        for (int k = 3; k >= 0; k--) {
            Check.due("back", m.back(k), k);
            Check.due("HOUR", m.count(4), k);
        }
        m.rest();
        m.rest();
        m.rest();
        m.rest();
        m.rest();
        Check.due("in place of another one", m.image(2), 5);
        m.back(0);
        Check.due("back", m.back(2), 5);
        Check.due("back", m.back(3), 3);
    }

    private static void nothingToUndo() {
        OneMirror m = Check.withIsland("marks 1;person 1 0");
        m.rest();
        m.rest();
        Check.due("image", m.image(0), 2);
        Check.due("ACTS then", m.count(9), 0);
        Check.due("undo", m.undo(), -1);
        m.rest();
        Check.due("ACTS", m.count(9), 1);
        Check.due("back", m.back(0), 2);
        Check.due("ACTS then", m.count(9), 0);
        Check.due("undo", m.undo(), -1);
        Check.due("HOUR", m.count(4), 2);
    }
}
