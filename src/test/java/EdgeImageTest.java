/** The edges of promises 36 and 37: IMAGES, and what is gone back to. */
public final class EdgeImageTest {
    private EdgeImageTest() {
    }

    public static void main(String[] args) {
        imagesZeroToThree();
        imageBeyond();
        imageWithoutIsland();
        imageInPlaceOfAnother();
        imageAndUndo();
        imageOfNoMore();
        backAsItWas();
        backToAnotherIsland();
        backFromNoIsland();
        backAgain();
        backLeavesTapeAndRules();
        backToTheRuleInForce();
        backAndUndo();
        backToNeverMade();
        backBeyond();
        Check.finish();
    }

    private static void imagesZeroToThree() {
        Check.sentence("III: IMAGES 0 to 3; P36: HOUR");
        OneMirror m = Check.withIsland("marks 1;person 1 0");
        for (int k = 0; k < 4; k++) {
            Check.due("image " + k, m.image(k), k);
            m.rest();
        }
        for (int k = 3; k >= 0; k--) {
            Check.due("back " + k, m.back(k), k);
        }
    }

    private static void imageBeyond() {
        Check.sentence("P36: NONE without it");
        for (int k : new int[] {-1, 4, Integer.MIN_VALUE, Integer.MAX_VALUE}) {
            Edge.nothing(Edge::rich, "image " + k, m -> m.image(k), -1);
        }
    }

    private static void imageWithoutIsland() {
        Check.sentence("P36: An IMAGE is made: HOUR");
        OneMirror m = new OneMirror();
        Check.due("image", m.image(3), 0);
        Check.due("back", m.back(3), 0);
        Check.due("PEOPLE", m.count(1), 0);
    }

    private static void imageInPlaceOfAnother() {
        Check.sentence("P36: An IMAGE is made");
        OneMirror m = Edge.rich();
        Check.due("the first", m.back(2), 0);
        m.rest();
        Check.due("in its place", m.image(2), 1);
        m.rest();
        Check.due("the other one", m.back(2), 1);
    }

    private static void imageAndUndo() {
        Check.sentence("III: nothing can be UNDONE then");
        OneMirror m = Edge.rich();
        Check.due("image", m.image(0), 7);
        Check.due("ACTS", m.count(9), 0);
        Check.due("undo", m.undo(), -1);
        m.rest();
        Check.due("what comes behind", m.undo(), 0);
        Check.due("HOUR", m.count(4), 7);
    }

    private static void imageOfNoMore() {
        Check.sentence("III: all but the TAPE and the RULES, as it is");
        // but for what can be UNDONE an IMAGE changes nothing: so it is the same with one more
        Edge.alike("image in another place", () -> Edge.with(Edge::rich, m -> m.image(0) + m.image(1)),
            () -> Edge.with(Edge::rich, m -> m.image(1) + m.image(0)));
        OneMirror m = Edge.rich();
        m.image(0);
        int[] due = {3, 4, 2, 0, 7, 1, 4, 2, 2, 0, 4711, 18};
        for (int what = 0; what < 12; what++) {
            Check.due("count " + what, m.count(what), due[what]);
        }
    }

    /** As rich with an IMAGE 0 of it. */
    private static OneMirror imaged() {
        return Edge.with(Edge::rich, m -> m.image(0));
    }

    /** Everything that can be is another one. */
    private static long livesOn(OneMirror m) {
        m.keep(false);
        m.give(2);
        m.look();
        m.save();
        m.sell(2, 3, 20);
        m.spend(3);
        m.retell(1, 3, 7);
        m.wish(-1, 0, 0, 0);
        m.view(7, 7);
        m.seed(1);
        m.force(1);
        return m.rest();
    }

    private static void backAsItWas() {
        Check.sentence("III: gone back to, it is as it was");
        Check.due("HOUR", Edge.with(EdgeImageTest::imaged, EdgeImageTest::livesOn).back(0), 7);
        Edge.alike("back", () -> Edge.with(EdgeImageTest::imaged, m -> livesOn(m) + m.back(0)), EdgeImageTest::imaged);
    }

    private static void backToAnotherIsland() {
        Check.sentence("III: gone back to, it is as it was");
        String text = "marks 6" + ";person 63 9".repeat(8) + ";tie 0 1 9;tie 7 0 3;boat 6 7;boat 0 3;glass 7";
        Edge.alike("back", () -> Edge.with(() -> Edge.with(EdgeImageTest::imaged, m -> m.end(0)),
            m -> Check.island(m, text) + m.look() + m.save() + m.back(0)),
            () -> Edge.with(EdgeImageTest::imaged, m -> m.end(0)));
    }

    private static void backFromNoIsland() {
        Check.sentence("III: gone back to, it is as it was");
        OneMirror m = new OneMirror();
        m.image(1);
        Check.island(m, Edge.ISLAND);
        m.rest();
        m.image(0);
        Check.due("to no ISLAND", m.back(1), 0);
        Check.due("GLASS", m.count(5), -1);
        Check.due("rest", m.rest(), -1);
        Check.due("to the ISLAND", m.back(0), 1);
        Check.due("PEOPLE", m.count(1), 4);
        Check.due("rest", m.rest(), 2);
    }

    private static void backAgain() {
        Check.sentence("III: gone back to, it is as it was");
        Edge.alike("back twice", () -> Edge.with(EdgeImageTest::imaged, m -> m.back(0) + livesOn(m) + m.back(0)),
            EdgeImageTest::imaged);
    }

    private static void backLeavesTapeAndRules() {
        Check.sentence("III: all but the TAPE and the RULES; these stay");
        OneMirror m = imaged();
        Check.due("a third RULE", Check.rule(m, "tell 3;weigh 4"), 2);
        Check.put(m, "marks 1;person 1 7;person 0 0");
        Check.due("back", m.back(0), 7);
        Check.due("RULES", m.count(2), 3);
        Check.due("bytes", m.count(11), 29);
        Check.due("tell by it", m.tell(2, 0, 3, 3), 4);
        Check.due("told by it", m.telling(4, 3), 3);
        Check.due("the TAPE is read", m.island(), 2);
        Check.due("back", m.back(0), 7);
        Check.due("it is empty still", m.count(11), 0);
    }

    private static void backToTheRuleInForce() {
        Check.sentence("III: the RULE IN FORCE, too");
        OneMirror m = imaged();
        m.force(-1);
        m.back(0);
        Check.due("IN FORCE", m.count(3), 0);
        OneMirror n = Edge.early();
        n.force(-1);
        n.image(3);
        n.force(1);
        n.back(3);
        Check.due("none", n.count(3), -1);
    }

    private static void backAndUndo() {
        Check.sentence("III: nothing can be UNDONE then");
        OneMirror m = imaged();
        m.rest();
        m.rest();
        m.back(0);
        Check.due("ACTS", m.count(9), 0);
        Check.due("undo", m.undo(), -1);
        Check.due("HOUR", m.count(4), 7);
    }

    private static void backToNeverMade() {
        Check.sentence("P37: NONE, and nothing happens, if it was never made");
        for (int k : new int[] {0, 1, 3}) {
            Edge.nothing(Edge::rich, "back " + k, m -> m.back(k), -1);
        }
        Edge.nothing(OneMirror::new, "back 0", m -> m.back(0), -1);
    }

    private static void backBeyond() {
        Check.sentence("P37: NONE, and nothing happens, without it");
        for (int k : new int[] {-1, 4, Integer.MIN_VALUE, Integer.MAX_VALUE}) {
            Edge.nothing(Edge::rich, "back " + k, m -> m.back(k), -1);
        }
    }
}
