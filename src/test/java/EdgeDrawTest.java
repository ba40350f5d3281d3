import java.math.BigInteger;

/** The edges of promises 33 and 34: x, and HOURS by DRAWS. */
public final class EdgeDrawTest {
    private static final BigInteger TIMES = BigInteger.valueOf(1103515245);
    private static final BigInteger MORE = BigInteger.valueOf(12345);
    private static final BigInteger ROUND = BigInteger.valueOf(2147483648L);

    private EdgeDrawTest() {
    }

    public static void main(String[] args) {
        seedFromNoneToAll();
        seedBelow();
        drawsGoRound();
        alikeWithTheGlass();
        alikeWithoutTheGlass();
        slipsNever();
        slipsAlways();
        slipsBelow();
        timesGoOnFromTheLastDraw();
        timesBeginAnew();
        fromNowOn();
        thirtyNineTellings();
        fortyTellings();
        justSo();
        openTogether();
        byNone();
        mostOfAll();
        timesBeyond();
        hoursBeyond();
        slipsBeyond();
        whatBeyond();
        withoutARule();
        withoutIsland();
        nothingStays();
        atTheLastHour();
        Check.finish();
    }

    /** DRAWS told anew, in numbers that never go round by themselves. */
    private static final class Draws {
        private BigInteger x;

        Draws(int x) {
            this.x = BigInteger.valueOf(x);
        }

        int next(int of) {
            x = x.multiply(TIMES).add(MORE).mod(ROUND);
            return x.intValueExact() / 65536 % of;
        }
    }

    private static void seedFromNoneToAll() {
        Check.sentence("III: x (0 to 2147483647; 0 at first); P33: what it was");
        OneMirror m = new OneMirror();
        Check.due("0 at first", m.count(10), 0);
        Check.due("seed", m.seed(2147483647), 0);
        Check.due("x", m.count(10), 2147483647);
        Check.due("seed", m.seed(1), 2147483647);
        Check.due("seed", m.seed(0), 1);
        Check.due("x", m.count(10), 0);
    }

    private static void seedBelow() {
        Check.sentence("P33: NONE, and nothing happens, below 0");
        Edge.nothing(Edge::rich, "seed -1", m -> m.seed(-1), -1);
        Edge.nothing(Edge::rich, "seed least", m -> m.seed(Integer.MIN_VALUE), -1);
        Check.due("what it was", Edge.rich().seed(0), 4711);
    }

    /** One HOUR of seven PEOPLE, whose FACES are 1: who was told theirs, or saw it, knows it. */
    private static void drawsGoRound() {
        Check.sentence("III: x becomes x * 1103515245 + 12345, of 2147483648 the rest; a DRAW is x / 65536; mod PEOPLE");
        for (int i = 0; i < 40; i++) {
            int x = i < 20 ? i : 2147483647 - i;
            Draws draws = new Draws(x);
            int teller = draws.next(7);
            int hearer = draws.next(7);
            OneMirror m = Check.withIsland("marks 1" + ";person 1 0".repeat(7) + ";glass 3");
            Check.rule(m, "tell 1 if teller = " + teller + " and hearer = " + hearer + ";tell 0");
            m.seed(x);
            boolean does = teller != hearer || teller == 3;
            Check.due("x " + x + ": " + teller + " and " + hearer, m.drawn(0, 1, 1, 0, 0), does ? 1 : 0);
            Check.due("x " + x + ", OPEN", m.drawn(0, 1, 1, 0, 1), does ? 6 : 7);
        }
    }

    /** The least x from which both DRAWS are as they are wanted. */
    private static int seedFor(int people, int teller, int hearer) {
        int x = 0;
        while (true) {
            Draws draws = new Draws(x);
            if (draws.next(people) == teller && draws.next(people) == hearer) {
                return x;
            }
            x++;
        }
    }

    private static int known(String island, int x, int p) {
        OneMirror m = Check.withIsland(island);
        m.seed(x);
        return m.drawn(-1, 1, 1, p, 0);
    }

    private static void alikeWithTheGlass() {
        Check.sentence("III: if they are alike and have the GLASS they LOOK");
        String island = "marks 2;person 1 0;person 2 0;glass ";
        for (int p = 0; p < 2; p++) {
            Check.due(p + " LOOKS", known(island + p, seedFor(2, p, p), 0), 1);
            Check.due(p + " LOOKS, and no MARK slips", known(island + p, seedFor(2, p, p), 100), 1);
        }
    }

    private static void alikeWithoutTheGlass() {
        Check.sentence("III: if they are alike and have the GLASS they LOOK");
        String island = "marks 2;person 1 0;person 2 0;glass ";
        for (int p = 0; p < 2; p++) {
            Check.due(p + " does not have it", known(island + (1 - p), seedFor(2, p, p), 0), 0);
        }
    }

    private static void slipsNever() {
        Check.sentence("III: p (0 to 100): if it is below p it slips");
        String island = "marks 6;person 21 0;person 42 0";
        for (int x = 0; x < 40; x++) {
            Draws draws = new Draws(x);
            boolean isTold = draws.next(2) != draws.next(2);
            if (isTold) {
                Check.due("none slips from " + x, known(island, x, 0), 1);
            }
        }
    }

    private static void slipsAlways() {
        Check.sentence("III: p (0 to 100): if it is below p it slips");
        OneMirror m = Check.withIsland("marks 6;person 21 0;person 42 0");
        Check.rule(m, "tell 63 - face");
        for (int x = 0; x < 40; x++) {
            Draws draws = new Draws(x);
            if (draws.next(2) != draws.next(2)) {
                m.seed(x);
                Check.due("all of 63 - face slip from " + x, m.drawn(0, 1, 1, 100, 0), 1);
                Check.due("all of face slip from " + x, m.drawn(-1, 1, 1, 100, 0), 0);
            }
        }
    }

    private static void slipsBelow() {
        Check.sentence("III: then of each MARK a DRAW mod 100: if it is below p it slips");
        for (int x = 0; x < 60; x++) {
            Draws draws = new Draws(x);
            int teller = draws.next(2);
            int hearer = draws.next(2);
            int first = draws.next(100);
            int second = draws.next(100);
            if (teller != hearer) {
                OneMirror m = Check.withIsland("marks 2;person 3 0;person 3 0");
                Check.rule(m, "tell 2");
                m.seed(x);
                // told 2, it becomes 3 if MARK 0 slips alone
                Check.due("p " + first, m.drawn(0, 1, 1, first, 0), 0);
                Check.due("p " + (first + 1), m.drawn(0, 1, 1, first + 1, 0), second <= first ? 0 : 1);
            }
        }
    }

    /** Told anew for two PEOPLE with FACES 1 and 2, told as they are: how many know their FACE in the end. */
    private static int knowing(Draws draws, int hours, int tellings, int p) {
        int[] faces = {1, 2};
        int[][] sums = new int[2][2];
        int left = 40 - tellings;
        for (int hour = 0; hour < hours; hour++) {
            int teller = draws.next(2);
            int hearer = draws.next(2);
            if (left > 0 && (teller != hearer || teller == 0)) {
                left--;
                for (int mark = 0; mark < 2; mark++) {
                    boolean slips = teller != hearer && draws.next(100) < p;
                    boolean isThere = (faces[hearer] >> mark & 1) == 1 ^ slips;
                    int counts = teller == hearer ? 99 : 1;
                    sums[hearer][mark] += isThere ? counts : -counts;
                }
            }
        }
        int know = 0;
        for (int q = 0; q < 2; q++) {
            int believed = (sums[q][0] > 0 ? 1 : 0) + (sums[q][1] > 0 ? 2 : 0);
            know += believed == faces[q] ? 1 : 0;
        }
        return know;
    }

    /** With so many TELLINGS that are of nobody's BELIEF. */
    private static OneMirror two(int tellings) {
        OneMirror m = Check.withIsland("marks 2;person 1 0;person 2 0;glass 0");
        for (int i = 0; i < tellings; i++) {
            m.tell(-1, 0, 1, 0);
        }
        return m;
    }

    private static void timesGoOnFromTheLastDraw() {
        Check.sentence("III: DRAWN m times (1 to 20) n HOURS (1 to 60)");
        OneMirror m = two(0);
        for (int x = 0; x < 30; x++) {
            m.seed(x);
            Draws draws = new Draws(x);
            int all = 0;
            for (int times = 1; times <= 6; times++) {
                all += knowing(draws, 3, 0, 40);
                Check.due("from " + x + ", " + times + " times", m.drawn(-1, times, 3, 40, 0), all);
            }
        }
    }

    private static void timesBeginAnew() {
        Check.sentence("III: DRAWN m times n HOURS from now on");
        // 0 LOOKS in one HOUR of the first time alone: if it were not anew, it would be known the second time, too
        int x = 0;
        while (knowing(new Draws(x), 1, 0, 0) != 1 || both(x) != 1) {
            x++;
        }
        OneMirror m = two(0);
        m.seed(x);
        Check.due("once", m.drawn(-1, 1, 1, 0, 0), 1);
        Check.due("twice", m.drawn(-1, 2, 1, 0, 0), 1);
    }

    private static int both(int x) {
        Draws draws = new Draws(x);
        return knowing(draws, 1, 0, 0) + knowing(draws, 1, 0, 0);
    }

    private static void fromNowOn() {
        Check.sentence("III: n HOURS from now on");
        OneMirror m = two(0);
        m.look();
        m.tell(-1, 0, 1, 1);
        m.seed(seedFor(2, 1, 1));
        Check.due("both know it already", m.drawn(-1, 1, 1, 0, 0), 2);
        Check.due("nothing is OPEN", m.drawn(-1, 1, 1, 0, 1), 0);
    }

    private static void thirtyNineTellings() {
        Check.sentence("III: With 40 TELLINGS there are no more, nor DRAWS for slips");
        OneMirror m = two(39);
        for (int x = 0; x < 60; x++) {
            m.seed(x);
            Draws draws = new Draws(x);
            int all = 0;
            for (int times = 1; times <= 4; times++) {
                all += knowing(draws, 5, 39, 40);
                Check.due("from " + x + ", " + times + " times", m.drawn(-1, times, 5, 40, 0), all);
            }
        }
    }

    private static void fortyTellings() {
        Check.sentence("III: With 40 TELLINGS there are no more; HOUR goes on; the GLASS stays");
        OneMirror m = two(40);
        Check.due("nobody knows", m.drawn(-1, 20, 60, 50, 0), 0);
        Check.due("all OPEN", m.drawn(-1, 20, 60, 50, 1), 80);
        OneMirror n = two(39);
        n.tell(-1, 1, 0, 0);
        n.force(Check.rule(n, "weigh 1 if hour = 45 and moved = 6;weigh 0"));
        Check.due("HOUR 44", n.drawn(-1, 1, 4, 50, 1), 4);
        Check.due("HOUR 45", n.drawn(-1, 1, 5, 50, 1), 2);
        Check.due("HOUR 46", n.drawn(-1, 1, 6, 50, 1), 4);
        Check.due("HOUR 45 three times", n.drawn(-1, 3, 5, 50, 1), 6);
        Check.due("GLASS", n.count(5), 0);
    }

    private static void justSo() {
        Check.sentence("III: How many PEOPLE BELIEVE their FACE just so at the end (by the RULE IN FORCE)");
        OneMirror m = Check.withIsland("marks 2;person 0 0;person 3 0;glass 0");
        m.seed(seedFor(2, 1, 1));
        Check.due("who is told nothing BELIEVES no MARK: so it is of 0", m.drawn(-1, 1, 1, 0, 0), 1);
        m.tell(-1, 0, 1, 1);
        Check.due("and 1 was told", m.drawn(-1, 1, 1, 0, 0), 2);
        m.force(Check.rule(m, "weigh 0"));
        Check.due("what counts nothing", m.drawn(-1, 1, 1, 0, 0), 1);
        m.force(-1);
        Check.rule(m, "tell 1");
        m.tell(1, 0, 1, 1);
        m.tell(1, 0, 1, 1);
        Check.due("one MARK is not so", m.drawn(-1, 1, 1, 0, 0), 1);
    }

    private static void openTogether() {
        Check.sentence("III: MARKS that are OPEN, all together");
        OneMirror m = Check.withIsland("marks 6" + ";person 0 0".repeat(8));
        m.seed(seedFor(8, 1, 1));
        Check.due("all MARKS of all", m.drawn(-1, 1, 1, 0, 1), 48);
        m.seed(seedFor(8, 0, 0));
        Check.due("but those of one", m.drawn(-1, 1, 1, 0, 1), 42);
        m.force(Check.rule(m, "weigh 0"));
        Check.due("20 times", m.drawn(-1, 20, 60, 0, 1), 960);
    }

    private static void byNone() {
        Check.sentence("P34: RULE, or NONE");
        OneMirror m = two(0);
        Check.rule(m, "tell 3");
        m.seed(seedFor(2, 0, 1));
        Check.due("NONE: as it is", m.drawn(-1, 1, 1, 0, 0), 1);
        Check.due("by the RULE", m.drawn(0, 1, 1, 0, 0), 0);
        m.force(0);
        Check.due("NONE, though one is IN FORCE", m.drawn(-1, 1, 1, 0, 0), 1);
    }

    private static void mostOfAll() {
        Check.sentence("III: m times (1 to 20) n HOURS (1 to 60), p (0 to 100)");
        OneMirror m = two(0);
        Check.due("1 1 0", m.drawn(-1, 1, 1, 0, 0), 1);
        for (int x = 0; x < 5; x++) {
            m.seed(x);
            Draws draws = new Draws(x);
            int all = 0;
            for (int time = 0; time < 20; time++) {
                all += knowing(draws, 60, 0, 100);
            }
            Check.due("20 60 100", m.drawn(-1, 20, 60, 100, 0), all);
        }
    }

    private static void refused(String name, int m, int n, int p, int what) {
        Edge.nothing(Edge::rich, name, mirror -> mirror.drawn(1, m, n, p, what), -1);
    }

    private static void timesBeyond() {
        Check.sentence("P34: m times (1 to 20); NONE without these");
        for (int m : new int[] {0, -1, 21, Integer.MIN_VALUE, Integer.MAX_VALUE}) {
            refused("m " + m, m, 1, 0, 0);
        }
    }

    private static void hoursBeyond() {
        Check.sentence("P34: n HOURS (1 to 60); NONE without these");
        for (int n : new int[] {0, -1, 61, Integer.MIN_VALUE, Integer.MAX_VALUE}) {
            refused("n " + n, 1, n, 0, 0);
        }
    }

    private static void slipsBeyond() {
        Check.sentence("P34: p (0 to 100); NONE without these");
        for (int p : new int[] {-1, 101, Integer.MIN_VALUE, Integer.MAX_VALUE}) {
            refused("p " + p, 1, 1, p, 0);
        }
    }

    private static void whatBeyond() {
        Check.sentence("P34: what 0: PEOPLE, 1: MARKS; NONE without these");
        for (int what : new int[] {-1, 2, Integer.MIN_VALUE, Integer.MAX_VALUE}) {
            refused("what " + what, 1, 1, 0, what);
        }
    }

    private static void withoutARule() {
        Check.sentence("P34: NONE without these (RULE, or NONE)");
        for (int rule : new int[] {2, 6, -2, Integer.MIN_VALUE, Integer.MAX_VALUE}) {
            Edge.nothing(Edge::rich, "RULE " + rule, m -> m.drawn(rule, 1, 1, 0, 0), -1);
        }
        Check.due("the last RULE", Edge.rich().drawn(1, 1, 1, 0, 0) >= 0, true);
    }

    private static void withoutIsland() {
        Check.sentence("P34: NONE without an ISLAND");
        Check.due("what 0", new OneMirror().drawn(-1, 1, 1, 0, 0), -1);
        Check.due("what 1", new OneMirror().drawn(-1, 1, 1, 0, 1), -1);
    }

    private static void nothingStays() {
        Check.sentence("III: nothing stays; x as it was");
        Edge.asked(Edge::rich, "drawn by a RULE", m -> m.drawn(0, 20, 60, 50, 0));
        Edge.asked(Edge::unkept, "drawn by NONE", m -> m.drawn(-1, 3, 60, 0, 1));
        Edge.asked(Edge::full, "drawn with 40 TELLINGS", m -> m.drawn(-1, 3, 60, 100, 1));
        OneMirror m = Edge.rich();
        Check.due("the same again", m.drawn(0, 7, 9, 30, 0), m.drawn(0, 7, 9, 30, 0));
    }

    private static void atTheLastHour() {
        Check.sentence("III: HOUR goes on");
        OneMirror m = Edge.quiet(9999);
        m.force(Check.rule(m, "weigh 1 if hour = 10059;weigh 0"));
        int open = m.drawn(-1, 1, 60, 0, 1);
        Check.due("HOUR 10059: some are not OPEN", open >= 0 && open < 3, true);
        Check.due("HOUR 10058: all are", m.drawn(-1, 1, 59, 0, 1), 3);
        Check.due("HOUR", m.count(4), 9999);
    }
}
