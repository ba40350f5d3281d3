/** The edges of promises 1, 2, 3 and 35: a new object, the TAPE, and what is counted. */
public final class EdgeTapeTest {
    private EdgeTapeTest() {
    }

    public static void main(String[] args) {
        aNewObject();
        fiveHundredTwelveCalls();
        feedsUpToTheBrim();
        feedBeyondTheBrim();
        feedBeyondByOne();
        feedHighestFirst();
        endOfAll();
        endOfNone();
        endBeyond();
        endBelow();
        endCutsOff();
        countsOfNone();
        countsOfOthers();
        countsChangeNothing();
        Check.finish();
    }

    private static OneMirror brim() {
        OneMirror m = Edge.rich();
        Check.put(m, "marks 1;person 1 7" + " ".repeat(382));
        return m;
    }

    private static void aNewObject() {
        Check.sentence("P1: No ISLAND, no RULES, none IN FORCE");
        OneMirror m = new OneMirror();
        Check.due("PEOPLE", m.count(1), 0);
        Check.due("RULES", m.count(2), 0);
        Check.due("IN FORCE", m.count(3), -1);
        Check.due("person", m.person(0, 0), -1);
        Check.due("no RULE 0", m.force(0), -2);
        Check.due("no IMAGE", m.back(0), -1);
    }

    private static void fiveHundredTwelveCalls() {
        Check.sentence("An object is used for at most 512 calls after it has been made");
        OneMirror m = new OneMirror();
        // "marks 1;person 1 7  "
        m.feed(0x6d61726b, 0x7320313b, 0x70657273, 0x6f6e2031, 0x20372020);
        Check.due("call 2", m.island(), 1);
        for (int call = 3; call <= 512; call++) {
            Check.due("call " + call, m.rest(), call - 2);
        }
    }

    private static void feedsUpToTheBrim() {
        Check.sentence("P2: Twenty bytes come behind the TAPE: how many it has");
        OneMirror m = new OneMirror();
        for (int i = 1; i <= 20; i++) {
            Check.due("feed " + i, m.feed(i, -i, Integer.MAX_VALUE, Integer.MIN_VALUE, 0), 20 * i);
            Check.due("bytes", m.count(11), 20 * i);
        }
    }

    private static void feedBeyondTheBrim() {
        Check.sentence("P2: NONE, and none comes, if it would have more than 400");
        Edge.nothing(EdgeTapeTest::brim, "feed at 400", m -> m.feed(1, 2, 3, 4, 5), -1);
    }

    private static void feedBeyondByOne() {
        Check.sentence("P2: NONE, and none comes, if it would have more than 400");
        Edge.nothing(() -> Edge.with(EdgeTapeTest::brim, m -> m.end(381)), "feed at 381", m -> m.feed(1, 2, 3, 4, 5), -1);
        OneMirror m = brim();
        Check.due("end 380", m.end(380), 380);
        Check.due("feed at 380", m.feed(0x20202020, 0x20202020, 0x20202020, 0x20202020, 0x20202020), 400);
        Check.due("all of it is read", m.island(), 1);
    }

    private static void feedHighestFirst() {
        Check.sentence("P2: of each number the highest first");
        OneMirror m = new OneMirror();
        m.feed(0x74656c6c, 0x20313233, 0x34353620, 0x20202020, 0x202020ff);
        Check.due("tell 123456", m.rule(), Check.fault(5, 1));
        m.feed(0x74656c6c, 0x20312020, 0x20202020, 0x20202020, 0x202020ff);
        Check.due("the last byte of all", m.rule(), Check.fault(19, 0));
        m.feed(0xff656c6c, 0x20312020, 0x20202020, 0x20202020, 0x20202020);
        Check.due("the first byte of all", m.rule(), Check.fault(0, 0));
    }

    private static void endOfAll() {
        Check.sentence("P3: The TAPE has its first n bytes alone: n");
        Edge.nothing(Edge::rich, "end of all 18", m -> m.end(18), 18);
        Edge.nothing(EdgeTapeTest::brim, "end of all 400", m -> m.end(400), 400);
    }

    private static void endOfNone() {
        Check.sentence("P3: The TAPE has its first n bytes alone: n");
        OneMirror m = new OneMirror();
        Check.due("end 0 of a TAPE that is empty", m.end(0), 0);
        m.feed(1, 2, 3, 4, 5);
        Check.due("end 0", m.end(0), 0);
        Check.due("bytes", m.count(11), 0);
    }

    private static void endBeyond() {
        Check.sentence("P3: NONE, and nothing happens, if it has not so many");
        Edge.nothing(Edge::rich, "end 19 of 18", m -> m.end(19), -1);
        Edge.nothing(Edge::rich, "end 400 of 18", m -> m.end(400), -1);
        Edge.nothing(Edge::rich, "end far", m -> m.end(Integer.MAX_VALUE), -1);
        Edge.nothing(EdgeTapeTest::brim, "end 401 of 400", m -> m.end(401), -1);
        Edge.nothing(OneMirror::new, "end 1 of none", m -> m.end(1), -1);
    }

    private static void endBelow() {
        Check.sentence("P3: NONE, and nothing happens, if n is below 0");
        Edge.nothing(Edge::rich, "end -1", m -> m.end(-1), -1);
        Edge.nothing(Edge::rich, "end least", m -> m.end(Integer.MIN_VALUE), -1);
    }

    private static void endCutsOff() {
        Check.sentence("P3: The TAPE has its first n bytes alone");
        OneMirror m = new OneMirror();
        Check.put(m, "tell 12345");
        Check.due("end 6", m.end(6), 6);
        Check.due("what was cut off is gone", m.end(7), -1);
        Check.due("others come behind the six", m.feed(0x20202020, 0x20202020, 0x20202020, 0x20202020, 0x20202020), 26);
        Check.due("tell 1", m.rule(), 0);
    }

    private static void countsOfNone() {
        Check.sentence("P35: the RULE IN FORCE (NONE), who has the GLASS (NONE without an ISLAND), and none of the others");
        OneMirror m = new OneMirror();
        int[] due = {0, 0, 0, -1, 0, -1, 0, 0, 0, 0, 0, 0};
        for (int what = 0; what < 12; what++) {
            Check.due("count " + what, m.count(what), due[what]);
        }
    }

    private static void countsOfOthers() {
        Check.sentence("P35: NONE for others");
        Edge.nothing(Edge::rich, "count -1", m -> m.count(-1), -1);
        Edge.nothing(Edge::rich, "count 12", m -> m.count(12), -1);
        for (int far : Edge.FAR) {
            Check.due("count " + far, Edge.rich().count(far), -1);
        }
    }

    private static void countsChangeNothing() {
        Check.sentence("III: By what is asked nothing changes");
        int[] due = {3, 4, 2, 0, 7, 1, 4, 2, 2, 10, 4711, 18};
        for (int i = 0; i < 12; i++) {
            int what = i;
            Edge.nothing(Edge::rich, "count " + what, m -> m.count(what), due[what]);
        }
    }
}
