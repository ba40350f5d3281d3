/** The edges of promises 22 to 27: LEAN, LIKELIEST, FLATTERS, ASK, CHAIN, SLIP. */
public final class EdgeAskTest {
    /** FACES 1, 0, 3 and 0. */
    private static final String FOUR = "marks 2;person 1 0;person 0 0;person 3 0;person 0 0;tie 0 1 4;tie 0 2 6;glass 0";

    private EdgeAskTest() {
    }

    public static void main(String[] args) {
        leanOfNothing();
        leanOfOthers();
        leanBelow();
        leanWithout();
        likeliestByNobody();
        likeliestByOthers();
        likeliestTheOtherWay();
        likeliestEven();
        likeliestWithout();
        flattersNotSo();
        flattersTheOneTheyAreOf();
        flattersBelow();
        flattersMostAbove();
        flattersMostLeast();
        flattersNotAsked();
        flattersWithout();
        askAboveNothing();
        askAsMuch();
        askOneLess();
        askWithoutASign();
        askOfAFaceZero();
        askNow();
        askOfSeveral();
        askNobodyElse();
        askWithout();
        chainOfOne();
        chainOfForty();
        chainWithout();
        slipNone();
        slipFirst();
        slipWithout();
        changesNothing();
        Check.finish();
    }

    /** RULE 0 tells all wrong, 1 tells all MARKS, 2 none of them. */
    private static OneMirror four() {
        OneMirror m = Check.withIsland(FOUR);
        Check.rule(m, "tell 3 - face");
        Check.rule(m, "tell 3");
        Check.rule(m, "tell 0");
        return m;
    }

    private static void leanOfNothing() {
        Check.sentence("III: LEAN: of all MARKS in TELLINGS of that teller");
        for (int p = 0; p < 4; p++) {
            Check.due("nothing told", four().lean(p), 0);
        }
    }

    private static void leanOfOthers() {
        Check.sentence("III: of others; LOOKS not");
        OneMirror m = four();
        m.look();
        m.tell(1, 0, 1, 0);
        Check.due("of themselves", m.lean(0), 0);
        m.retell(0, 1, 3);
        Check.due("of themselves, retold", m.lean(0), 0);
        m.tell(-1, 0, 1, 2);
        Check.due("of another one", m.lean(0), 2);
        m.retell(1, 3, 0);
        Check.due("retold, of another one", m.lean(1), 0);
        m.retell(3, 3, 1);
        Check.due("retold with a slip", m.lean(1), 0);
    }

    private static void leanBelow() {
        Check.sentence("III: those that were so less those that were not");
        OneMirror m = four();
        m.tell(0, 1, 0, 0);
        Check.due("all wrong", m.lean(1), -2);
        m.tell(2, 1, 3, 0);
        Check.due("one and one", m.lean(1), -2);
        m.tell(0, 1, 3, 2);
        Check.due("all wrong", m.lean(1), -4);
    }

    private static void leanWithout() {
        Check.sentence("P22: -1000000 without them");
        Check.due("no ISLAND", new OneMirror().lean(0), -1000000);
        Check.due("4 of four", four().lean(4), -1000000);
        Check.due("-1", four().lean(-1), -1000000);
        for (int far : Edge.FAR) {
            Check.due("lean " + far, four().lean(far), -1000000);
        }
    }

    private static void likeliestByNobody() {
        Check.sentence("III: LIKELIEST FACE: by all TELLINGS of them by others");
        OneMirror m = four();
        Check.due("nothing told", m.likeliest(0, 0), 0);
        Check.due("nothing told, even", m.likeliest(0, 1), 3);
        m.look();
        m.tell(-1, 0, 1, 2);
        m.tell(1, 0, 1, 0);
        Check.due("told by themselves", m.likeliest(0, 0), 0);
        Check.due("told by themselves, even", m.likeliest(0, 1), 3);
    }

    private static void likeliestByOthers() {
        Check.sentence("III: by others, to whomever");
        OneMirror m = four();
        m.tell(-1, 1, 2, 0);
        Check.due("told to another one", m.likeliest(0, 0), 1);
        Check.due("even", m.likeliest(0, 1), 0);
        OneMirror n = four();
        n.tell(-1, 2, 0, 0);
        Check.due("told to them", n.likeliest(0, 0), 1);
    }

    private static void likeliestTheOtherWay() {
        Check.sentence("III: LEAN may be below 0: then it counts for the other way");
        OneMirror m = four();
        m.tell(0, 1, 2, 0);
        Check.due("told 2 by one who leans -2", m.likeliest(0, 0), 1);
        Check.due("even", m.likeliest(0, 1), 0);
    }

    private static void likeliestEven() {
        Check.sentence("P23: 1: MARKS that come out even");
        OneMirror m = four();
        m.tell(2, 1, 2, 0);
        Check.due("by one who leans 0", m.likeliest(0, 0), 0);
        Check.due("by one who leans 0", m.likeliest(0, 1), 3);
        OneMirror n = four();
        // 2 tells 0 of 0, and is right of 1: 0 and 2; 3 tells 1 of 0: 2
        n.tell(2, 2, 1, 0);
        n.tell(-1, 2, 0, 1);
        n.tell(-1, 3, 1, 0);
        Check.due("lean 2", n.lean(2), 2);
        Check.due("lean 3", n.lean(3), 2);
        Check.due("for it", n.likeliest(0, 0), 0);
        Check.due("mark 0 alone", n.likeliest(0, 1), 1);
    }

    private static void likeliestWithout() {
        Check.sentence("P23: NONE without these");
        Check.due("no ISLAND", new OneMirror().likeliest(0, 0), -1);
        Check.due("4 of four", four().likeliest(4, 0), -1);
        Check.due("-1", four().likeliest(-1, 1), -1);
        Check.due("what 2", four().likeliest(0, 2), -1);
        Check.due("what -1", four().likeliest(0, -1), -1);
        for (int far : Edge.FAR) {
            Check.due("PERSON " + far, four().likeliest(far, 0), -1);
            Check.due("what " + far, four().likeliest(0, far), -1);
        }
    }

    private static void flattersNotSo() {
        Check.sentence("III: FLATTERS: of MARKS that were not so");
        OneMirror m = four();
        Check.due("nothing told", m.flatters(2, 0), 0);
        m.tell(-1, 2, 0, 0);
        Check.due("all so", m.flatters(2, 0), 0);
        m.tell(1, 2, 0, 0);
        Check.due("one more was told", m.flatters(2, 0), 1);
        m.tell(0, 2, 0, 0);
        Check.due("one more, one less", m.flatters(2, 0), 1);
    }

    private static void flattersTheOneTheyAreOf() {
        Check.sentence("III: in TELLINGS to the one they are of");
        OneMirror m = four();
        m.tell(1, 2, 0, 1);
        Check.due("to another one", m.flatters(2, 0), 0);
        m.tell(1, 2, 1, 2);
        Check.due("of themselves to another one", m.flatters(2, 0), 0);
        m.retell(0, 1, 0);
        Check.due("retold to the one it is of", m.flatters(0, 0), 2);
        m.look();
        Check.due("a LOOK", m.flatters(0, 0), 2);
    }

    private static void flattersBelow() {
        Check.sentence("III: those that were told as there, less those that were told as not there");
        OneMirror m = four();
        m.tell(2, 1, 2, 2);
        Check.due("two less", m.flatters(1, 0), -2);
        m.tell(1, 1, 3, 3);
        Check.due("two more", m.flatters(1, 0), 0);
    }

    private static void flattersMostAbove() {
        Check.sentence("III: who flatters most (above 0)");
        OneMirror m = four();
        Check.due("nobody told", m.flatters(0, 1), -1);
        Check.due("nobody else is", Check.withIsland("marks 1;person 0 0").flatters(0, 1), -1);
        m.tell(0, 1, 0, 0);
        Check.due("0 is not above 0", m.flatters(0, 1), -1);
        m.tell(2, 2, 0, 0);
        Check.due("below 0", m.flatters(0, 1), -1);
        m.tell(1, 3, 0, 0);
        Check.due("1", m.flatters(0, 1), 3);
    }

    private static void flattersMostLeast() {
        Check.sentence("III: of several the least");
        OneMirror m = four();
        m.tell(1, 3, 0, 0);
        m.tell(1, 2, 0, 0);
        Check.due("2 and 3 as much", m.flatters(0, 1), 2);
        m.tell(1, 3, 0, 0);
        Check.due("3 more", m.flatters(0, 1), 3);
        m.tell(1, 0, 1, 1);
        Check.due("0 and 3 as much", m.flatters(0, 1), 0);
    }

    private static void flattersNotAsked() {
        Check.sentence("P24: the PERSON is not asked");
        OneMirror m = four();
        m.tell(1, 3, 0, 0);
        Check.due("-1", m.flatters(-1, 1), 3);
        Check.due("4", m.flatters(4, 1), 3);
        for (int far : Edge.FAR) {
            Check.due("PERSON " + far, m.flatters(far, 1), 3);
        }
    }

    private static void flattersWithout() {
        Check.sentence("P24: -1000000 without these, or an ISLAND");
        Check.due("no ISLAND, 0", new OneMirror().flatters(0, 0), -1000000);
        Check.due("no ISLAND, 1", new OneMirror().flatters(0, 1), -1000000);
        Check.due("4 of four", four().flatters(4, 0), -1000000);
        Check.due("-1", four().flatters(-1, 0), -1000000);
        Check.due("what 2", four().flatters(0, 2), -1000000);
        Check.due("what -1", four().flatters(0, -1), -1000000);
        for (int far : Edge.FAR) {
            Check.due("PERSON " + far, four().flatters(far, 0), -1000000);
            Check.due("what " + far, four().flatters(0, far), -1000000);
        }
    }

    private static OneMirror weighed(String rule) {
        OneMirror m = four();
        m.force(Check.rule(m, rule));
        return m;
    }

    private static void asks(OneMirror m, int person, int whom, int marks) {
        Check.due("whom " + person + " asks", m.ask(person, 0), whom);
        Check.due("MARKS of " + person, m.ask(person, 1), marks);
    }

    private static void askAboveNothing() {
        Check.sentence("III: a new TELLING counts above 0");
        asks(weighed("weigh 0"), 0, 1, 0);
        asks(weighed("weigh tie"), 1, 0, 0);
        asks(weighed("weigh tie"), 0, 1, 2);
        asks(weighed("weigh 1"), 1, 0, 2);
        asks(weighed("weigh 6 if teller = 3;weigh 0"), 0, 3, 2);
    }

    private static void askAsMuch() {
        Check.sentence("III: and as much as the MARK's SUM");
        OneMirror m = weighed("weigh tie");
        m.tell(-1, 2, 0, 0);
        asks(m, 0, 2, 2);
        OneMirror n = four();
        n.tell(-1, 1, 0, 0);
        asks(n, 0, 1, 2);
    }

    private static void askOneLess() {
        Check.sentence("III: as much as the MARK's SUM or more");
        OneMirror m = weighed("weigh 5 if teller = 1 and moved = 0;weigh 6 if teller = 1;weigh 7 if teller = 2;weigh 5");
        m.tell(-1, 1, 0, 0);
        asks(m, 0, 2, 2);
        OneMirror n = four();
        n.tell(-1, 1, 0, 0);
        n.tell(-1, 1, 0, 0);
        asks(n, 0, 1, 0);
        n.tell(2, 1, 0, 0);
        // 1 and -3
        asks(n, 0, 1, 1);
    }

    private static void askWithoutASign() {
        Check.sentence("III: the MARK's SUM (without a sign)");
        OneMirror m = four();
        m.tell(2, 1, 0, 0);
        m.tell(2, 1, 0, 0);
        // -2 and -2
        asks(m, 0, 1, 0);
        m.tell(1, 1, 0, 0);
        asks(m, 0, 1, 2);
    }

    private static void askOfAFaceZero() {
        Check.sentence("III: as weigh has it, of a FACE 0");
        OneMirror m = weighed("weigh 9 if face = 0;weigh 1");
        m.tell(-1, 1, 0, 0);
        m.tell(-1, 1, 0, 0);
        asks(m, 0, 1, 2);
    }

    private static void askNow() {
        Check.sentence("III: a new TELLING now by them");
        OneMirror m = weighed("weigh 3 if hour = 2 and moved = 0 and steps = 0 and of = 3 and hearer = 3;weigh 0");
        asks(m, 3, 0, 0);
        m.rest();
        m.rest();
        asks(m, 3, 0, 2);
        asks(m, 2, 0, 0);
        m.rest();
        asks(m, 3, 0, 0);
    }

    private static void askOfSeveral() {
        Check.sentence("III: of several the least");
        asks(four(), 0, 1, 2);
        asks(four(), 1, 0, 2);
        asks(four(), 3, 0, 2);
        asks(weighed("weigh teller"), 0, 1, 2);
        asks(weighed("weigh teller"), 1, 2, 2);
    }

    private static void askNobodyElse() {
        Check.sentence("P25: -2: nobody else is");
        OneMirror m = Check.withIsland("marks 2;person 1 0");
        asks(m, 0, -2, 0);
        m.look();
        asks(m, 0, -2, 0);
    }

    private static void askWithout() {
        Check.sentence("P25: NONE without these");
        Check.due("no ISLAND", new OneMirror().ask(0, 0), -1);
        Check.due("no ISLAND", new OneMirror().ask(0, 1), -1);
        Check.due("4 of four", four().ask(4, 0), -1);
        Check.due("-1", four().ask(-1, 1), -1);
        Check.due("what 2", four().ask(0, 2), -1);
        Check.due("what -1", four().ask(0, -1), -1);
        for (int far : Edge.FAR) {
            Check.due("PERSON " + far, four().ask(far, 0), -1);
            Check.due("what " + far, four().ask(0, far), -1);
        }
    }

    private static void chained(OneMirror m, int telling, int... due) {
        for (int what = 0; what < 3; what++) {
            Check.due("chain " + telling + " " + what, m.chain(telling, what), due[what]);
        }
    }

    private static void chainOfOne() {
        Check.sentence("III: CHAIN of a TELLING: from TELLING to TELLING to the first");
        chained(Edge.rich(), 0, 1, 0, 0);
        chained(Edge.rich(), 3, 1, 1, 3);
        chained(Edge.rich(), 2, 2, 1, 1);
    }

    /** The first is by 3 to 1, all others are retold by 1 and 2 in turn; mark 0 slips in each from 20 on. */
    private static OneMirror forty() {
        OneMirror m = four();
        m.tell(-1, 3, 1, 0);
        for (int t = 1; t < 40; t++) {
            m.retell(t - 1, t % 2 == 1 ? 2 : 1, t >= 20 ? 1 : 0);
        }
        return m;
    }

    private static void chainOfForty() {
        Check.sentence("III: how many; who said it first");
        chained(forty(), 39, 40, 3, 0);
        chained(forty(), 38, 39, 3, 0);
        chained(forty(), 1, 2, 3, 0);
        OneMirror m = forty();
        m.force(Check.rule(m, "weigh steps"));
        Check.due("none of them to 0", m.sum(0, 0), 0);
    }

    private static void chainWithout() {
        Check.sentence("P26: NONE without these");
        Check.due("no ISLAND", new OneMirror().chain(0, 0), -1);
        Check.due("no TELLING", Edge.early().chain(0, 0), -1);
        Check.due("4 of four", Edge.rich().chain(4, 0), -1);
        Check.due("40 of forty", forty().chain(40, 0), -1);
        Check.due("-1", Edge.rich().chain(-1, 0), -1);
        Check.due("what 3", Edge.rich().chain(0, 3), -1);
        Check.due("what -1", Edge.rich().chain(0, -1), -1);
        for (int far : Edge.FAR) {
            Check.due("TELLING " + far, Edge.rich().chain(far, 0), -1);
            Check.due("what " + far, Edge.rich().chain(0, far), -1);
        }
    }

    private static void slipNone() {
        Check.sentence("P27: -2: none");
        Check.due("one that was told", Edge.rich().slip(1, 0), -2);
        Check.due("a LOOK", Edge.rich().slip(3, 0), -2);
        Check.due("another MARK", Edge.rich().slip(2, 1), -2);
        Check.due("ahead of the slip", forty().slip(19, 0), -2);
        Check.due("another MARK all along", forty().slip(39, 1), -2);
    }

    private static void slipFirst() {
        Check.sentence("III: the first TELLING along it from the first on in which the MARK is another one than in that ahead");
        Check.due("there", Edge.rich().slip(2, 0), 2);
        Check.due("the first of twenty", forty().slip(39, 0), 20);
        Check.due("the first of two, back as it was", forty().slip(21, 0), 20);
        Check.due("the first of one", forty().slip(20, 0), 20);
    }

    private static void slipWithout() {
        Check.sentence("P27: NONE without these");
        Check.due("no ISLAND", new OneMirror().slip(0, 0), -1);
        Check.due("no TELLING", Edge.early().slip(0, 0), -1);
        Check.due("4 of four", Edge.rich().slip(4, 0), -1);
        Check.due("-1", Edge.rich().slip(-1, 0), -1);
        Check.due("MARK 3 of three", Edge.rich().slip(2, 3), -1);
        Check.due("MARK -1", Edge.rich().slip(2, -1), -1);
        for (int far : Edge.FAR) {
            Check.due("TELLING " + far, Edge.rich().slip(far, 0), -1);
            Check.due("MARK " + far, Edge.rich().slip(2, far), -1);
        }
    }

    private static void changesNothing() {
        Check.sentence("III: By what is asked nothing changes");
        Edge.asked(Edge::rich, "lean", m -> m.lean(1));
        Edge.asked(Edge::rich, "lean of nobody", m -> m.lean(9));
        for (int i = -1; i < 3; i++) {
            int what = i;
            Edge.asked(Edge::rich, "likeliest " + what, m -> m.likeliest(0, what));
            Edge.asked(Edge::rich, "flatters " + what, m -> m.flatters(1, what));
            Edge.asked(Edge::rich, "ask " + what, m -> m.ask(0, what));
            Edge.asked(Edge::rich, "chain " + what, m -> m.chain(2, what));
            Edge.asked(Edge::rich, "slip " + what, m -> m.slip(2, what));
        }
    }
}
