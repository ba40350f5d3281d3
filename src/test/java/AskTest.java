/** Promises 22 to 27: LEAN, the LIKELIEST FACE, who FLATTERS, whom to ASK, CHAINS and SLIPS. */
public final class AskTest {
    private static final String FOUR = "marks 3;person 5 0;person 2 0;person 7 0;person 0 0;tie 0 1 4;tie 0 2 2";

    private AskTest() {
    }

    public static void main(String[] args) {
        lean();
        likeliest();
        likeliestEven();
        flatters();
        flattersMost();
        ask();
        askByRule();
        askAlone();
        chain();
        slip();
        Check.finish();
    }

    private static OneMirror told() {
        OneMirror m = Check.withIsland(FOUR);
        Check.rule(m, "tell 7");
        Check.rule(m, "tell 0");
        m.tell(0, 0, 1, 1);
        m.tell(-1, 0, 1, 2);
        m.tell(1, 2, 0, 0);
        m.tell(-1, 1, 2, 1);
        m.look();
        m.retell(0, 2, 1);
        return m;
    }

    private static void lean() {
        OneMirror m = told();
        // 0 told 7 of 2: one so, two not; and 7 of 7
        Check.due("lean 0", m.lean(0), 2);
        Check.due("of themselves counts not", m.lean(1), 0);
        Check.due("lean 2", m.lean(2), -1);
        Check.due("lean 3", m.lean(3), 0);
        m.retell(2, 3, 5);
        Check.due("of themselves, retold", m.lean(0), 2);
        m.retell(1, 2, 7);
        Check.due("a retelling counts", m.lean(1), -3);
        Check.due("lean 4", m.lean(4), -1000000);
        Check.due("lean -1", m.lean(-1), -1000000);
        Check.due("lean least", m.lean(Integer.MIN_VALUE), -1000000);
    }

    private static void likeliest() {
        OneMirror m = told();
        Check.due("of 0: the other way", m.likeliest(0, 0), 7);
        Check.due("of 1: by 0 alone", m.likeliest(1, 0), 7);
        Check.due("of 1, even", m.likeliest(1, 1), 0);
        Check.due("of 2, told to 1", m.likeliest(2, 0), 7);
        Check.due("of 3: nothing", m.likeliest(3, 0), 0);
        Check.due("of 3, even", m.likeliest(3, 1), 7);
        Check.due("what 2", m.likeliest(0, 2), -1);
        Check.due("what -1", m.likeliest(0, -1), -1);
        Check.due("of 4", m.likeliest(4, 0), -1);
        Check.due("of -1", m.likeliest(-1, 1), -1);
    }

    private static void likeliestEven() {
        OneMirror m = Check.withIsland("marks 2;person 1 0;person 0 0;person 0 0;person 0 0");
        Check.rule(m, "tell 2");
        Check.rule(m, "tell 1");
        // 1 and 2 have told as much so; then both tell 1 of 0
        m.tell(-1, 1, 0, 3);
        m.tell(-1, 2, 0, 3);
        m.tell(-1, 1, 3, 0);
        m.tell(1, 2, 3, 0);
        Check.due("lean 1", m.lean(1), 4);
        Check.due("lean 2", m.lean(2), 4);
        Check.due("for it", m.likeliest(0, 0), 1);
        Check.due("even", m.likeliest(0, 1), 0);
        m.tell(0, 2, 1, 3);
        m.retell(3, 1, 3);
        // 2 tells 2 for 0: one MARK so, one not; 3 retells 2 of 0, which is all wrong
        Check.due("lean 2", m.lean(2), 4);
        Check.due("lean 3", m.lean(3), -2);
        Check.due("for it", m.likeliest(0, 0), 1);
        OneMirror n = Check.withIsland("marks 2;person 3 0;person 0 0;person 0 0");
        Check.rule(n, "tell 1");
        n.tell(0, 1, 0, 0);
        Check.due("lean 0", n.lean(1), 0);
        Check.due("none for it", n.likeliest(0, 0), 0);
        Check.due("all even", n.likeliest(0, 1), 3);
    }

    private static void flatters() {
        OneMirror m = told();
        Check.due("0 told 7 for 2", m.flatters(0, 0), 2);
        Check.due("1", m.flatters(1, 0), 0);
        Check.due("2 told 0 for 5", m.flatters(2, 0), -2);
        Check.due("who most", m.flatters(0, 1), 0);
        Check.due("the PERSON is not asked", m.flatters(-7, 1), 0);
        Check.due("the PERSON is not asked", m.flatters(Integer.MAX_VALUE, 1), 0);
        Check.due("what 2", m.flatters(0, 2), -1000000);
        Check.due("what -1", m.flatters(0, -1), -1000000);
        Check.due("of 4", m.flatters(4, 0), -1000000);
        Check.due("of -1", m.flatters(-1, 0), -1000000);
    }

    private static void flattersMost() {
        OneMirror m = Check.withIsland(FOUR);
        Check.rule(m, "tell 7");
        Check.due("nobody", m.flatters(0, 1), -1);
        m.tell(-1, 3, 1, 1);
        Check.due("nobody", m.flatters(0, 1), -1);
        m.tell(0, 3, 1, 1);
        m.tell(0, 2, 1, 1);
        Check.due("of several the least", m.flatters(0, 1), 2);
        m.tell(0, 3, 2, 1);
        Check.due("not to the one it is of", m.flatters(3, 0), 2);
        m.tell(0, 3, 0, 0);
        Check.due("one more", m.flatters(3, 0), 3);
        Check.due("who most", m.flatters(0, 1), 3);
        m.retell(1, 3, 0);
        Check.due("told of themselves to another one", m.flatters(1, 0), 0);
        m.tell(-1, 1, 2, 0);
        m.retell(6, 0, 2);
        Check.due("retold to the one it is of", m.flatters(2, 0), 3);
        Check.due("of several the least", m.flatters(0, 1), 2);
    }

    private static void ask() {
        OneMirror m = Check.withIsland(FOUR);
        Check.due("all OPEN: the least", m.ask(0, 0), 1);
        Check.due("all MARKS", m.ask(0, 1), 3);
        Check.due("the least of others", m.ask(2, 0), 0);
        m.tell(-1, 1, 0, 0);
        Check.due("each could be OPEN", m.ask(0, 1), 3);
        m.tell(-1, 1, 0, 0);
        Check.due("none could", m.ask(0, 1), 0);
        Check.due("of several the least", m.ask(0, 0), 1);
        m.retell(1, 2, 0);
        m.retell(2, 0, 1);
        // 5, 5 and 4: sums 1, -3, 3
        Check.due("one could", m.ask(0, 1), 1);
        Check.due("what 2", m.ask(0, 2), -1);
        Check.due("what -1", m.ask(0, -1), -1);
        Check.due("of 4", m.ask(4, 0), -1);
        Check.due("of -1", m.ask(-1, 1), -1);
    }

    private static void askByRule() {
        OneMirror m = Check.withIsland(FOUR);
        Check.rule(m, "weigh tie");
        Check.rule(m, "tell 0;weigh 6 - tie if teller < 3;weigh 0");
        Check.rule(m, "weigh moved + steps");
        Check.rule(m, "weigh face * 9 + hour");
        m.force(0);
        m.tell(-1, 1, 0, 0);
        // 4, -4, 4
        Check.due("1 counts 4", m.ask(0, 0), 1);
        Check.due("1 counts 4", m.ask(0, 1), 3);
        m.force(1);
        // 2, -2, 2: by 1 a new one would count 2, by 2 it would count 4, by 3 nothing
        Check.due("both could", m.ask(0, 0), 1);
        m.tell(1, 2, 0, 0);
        // told 0, which counts 4: -2, -6, -2
        Check.due("two could", m.ask(0, 1), 2);
        Check.due("both could", m.ask(0, 0), 1);
        m.tell(1, 1, 0, 0);
        // -4, -8, -4
        Check.due("2 alone", m.ask(0, 0), 2);
        Check.due("2 alone", m.ask(0, 1), 2);
        m.force(2);
        Check.due("a new one counts nothing", m.ask(1, 1), 0);
        Check.due("the least", m.ask(1, 0), 0);
        m.force(3);
        Check.due("HOUR 3, of a FACE 0; sums 48, -48 and so on", m.ask(0, 1), 0);
        Check.due("HOUR 3, all OPEN", m.ask(3, 1), 3);
    }

    private static void askAlone() {
        OneMirror m = Check.withIsland("marks 2;person 1 1");
        Check.due("nobody else is", m.ask(0, 0), -2);
        Check.due("none", m.ask(0, 1), 0);
        Check.due("of 1", m.ask(1, 0), -1);
    }

    private static OneMirror retold() {
        OneMirror m = Check.withIsland(FOUR);
        m.rest();
        m.tell(-1, 3, 1, 2);
        m.tell(-1, 0, 1, 2);
        m.retell(1, 2, 1);
        m.look();
        m.retell(2, 0, 2);
        m.retell(4, 1, 1);
        return m;
    }

    private static void chain() {
        OneMirror m = retold();
        Check.due("how many", m.chain(5, 0), 4);
        Check.due("who", m.chain(5, 1), 0);
        Check.due("the first", m.chain(5, 2), 1);
        Check.due("how many", m.chain(2, 0), 2);
        Check.due("one alone", m.chain(0, 0), 1);
        Check.due("one alone", m.chain(0, 1), 3);
        Check.due("one alone", m.chain(0, 2), 0);
        Check.due("a LOOK", m.chain(3, 1), 0);
        Check.due("what 3", m.chain(5, 3), -1);
        Check.due("what -1", m.chain(5, -1), -1);
        Check.due("6", m.chain(6, 0), -1);
        Check.due("-1", m.chain(-1, 2), -1);
        Check.due("far", m.chain(Integer.MAX_VALUE, 0), -1);
    }

    private static void slip() {
        OneMirror m = retold();
        Check.due("the first of two", m.slip(5, 0), 2);
        Check.due("mark 1", m.slip(5, 1), 4);
        Check.due("mark 2", m.slip(5, 2), -2);
        Check.due("ahead of it", m.slip(2, 1), -2);
        Check.due("there", m.slip(2, 0), 2);
        Check.due("one alone", m.slip(1, 0), -2);
        Check.due("mark 3", m.slip(5, 3), -1);
        Check.due("mark -1", m.slip(5, -1), -1);
        Check.due("6", m.slip(6, 0), -1);
        Check.due("-1", m.slip(-1, 0), -1);
    }
}
