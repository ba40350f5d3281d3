/** The edges of promises 28 and 29: WISHES and ROUNDS. */
public final class EdgeRoundTest {
    private static final String LINE = "marks 1;person 0 0;person 0 0;person 0 0;boat 0 1;boat 1 2;glass 1";

    private EdgeRoundTest() {
    }

    public static void main(String[] args) {
        wishFromZeroToFifteen();
        wishBeyond();
        wishToBelowFrom();
        wishOfWorth();
        wishOfNobody();
        wishWithoutIsland();
        wishNone();
        tenWishes();
        eleventhWish();
        roundOfOne();
        roundOfSixteen();
        roundBeyond();
        roundWhatBeyond();
        roundWithoutIsland();
        roundWithoutWishes();
        servedInItsHours();
        servedOnce();
        servedBeyondTheRound();
        staysOrGoes();
        theGreatestTogether();
        theFirstAsARow();
        whoKeepsIsNotAsked();
        allTen();
        changesNothing();
        Check.finish();
    }

    private static OneMirror line() {
        return Check.withIsland(LINE);
    }

    private static void row(OneMirror m, int worth, int... seats) {
        int n = seats.length;
        Check.due("round " + n, m.round(n, -1), worth);
        for (int hour = 0; hour < n; hour++) {
            Check.due("round " + n + " in HOUR " + hour, m.round(n, hour), seats[hour]);
        }
    }

    private static void wishFromZeroToFifteen() {
        Check.sentence("III: HOURS from one to another one (0 the first one to come, 15 at most)");
        OneMirror m = line();
        Check.due("0 to 0", m.wish(0, 0, 0, 1), 1);
        Check.due("0 to 15", m.wish(1, 0, 15, 1), 2);
        Check.due("15 to 15", m.wish(2, 15, 15, 1), 3);
    }

    private static void wishBeyond() {
        Check.sentence("P28: -2, and nothing happens, without these");
        Edge.nothing(Edge::rich, "from -1", m -> m.wish(0, -1, 3, 1), -2);
        Edge.nothing(Edge::rich, "to 16", m -> m.wish(0, 0, 16, 1), -2);
        Edge.nothing(Edge::rich, "16 to 16", m -> m.wish(0, 16, 16, 1), -2);
        Edge.nothing(Edge::rich, "-1 to -1", m -> m.wish(0, -1, -1, 1), -2);
        Edge.nothing(Edge::rich, "least", m -> m.wish(0, Integer.MIN_VALUE, 0, 1), -2);
        Edge.nothing(Edge::rich, "greatest", m -> m.wish(0, 0, Integer.MAX_VALUE, 1), -2);
    }

    private static void wishToBelowFrom() {
        Check.sentence("P28: to not below from; -2, and nothing happens, without these");
        Edge.nothing(Edge::rich, "3 to 2", m -> m.wish(0, 3, 2, 1), -2);
        Edge.nothing(Edge::rich, "15 to 0", m -> m.wish(0, 15, 0, 1), -2);
        Check.due("3 to 3", Edge.rich().wish(0, 3, 3, 1), 3);
    }

    private static void wishOfWorth() {
        Check.sentence("P28: WORTH 1 to 99; -2, and nothing happens, without these");
        for (int worth : new int[] {0, -1, 100, Integer.MIN_VALUE, Integer.MAX_VALUE}) {
            Edge.nothing(Edge::rich, "WORTH " + worth, m -> m.wish(0, 0, 1, worth), -2);
        }
        OneMirror m = line();
        Check.due("WORTH 1", m.wish(1, 0, 0, 1), 1);
        Check.due("WORTH 99", m.wish(1, 0, 0, 99), 2);
        Check.due("together", m.round(1, -1), 100);
    }

    private static void wishOfNobody() {
        Check.sentence("P28: -2, and nothing happens, without these");
        for (int person : new int[] {4, 8, -2, Integer.MIN_VALUE, Integer.MAX_VALUE}) {
            Edge.nothing(Edge::rich, "PERSON " + person, m -> m.wish(person, 0, 1, 1), -2);
        }
        Check.due("PERSON 3", Edge.rich().wish(3, 0, 1, 1), 3);
    }

    private static void wishWithoutIsland() {
        Check.sentence("P28: -2, and nothing happens, without these");
        Edge.nothing(OneMirror::new, "no ISLAND", m -> m.wish(0, 0, 1, 1), -2);
        Edge.nothing(OneMirror::new, "there are none then", m -> m.wish(-1, 0, 1, 1), 0);
    }

    private static void wishNone() {
        Check.sentence("P28: person NONE: there are none then, 0");
        OneMirror m = Edge.rich();
        Check.due("none", m.wish(-1, 99, -99, 1000), 0);
        Check.due("WISHES", m.count(7), 0);
        Check.due("round", m.round(16, -1), 0);
        Check.due("none again", m.wish(-1, 0, 0, 0), 0);
        Check.due("the first anew", m.wish(1, 0, 0, 1), 1);
        Check.due("it takes no HOUR", m.count(4), 7);
        Check.due("it is no ACT", m.count(9), 10);
    }

    private static OneMirror ten() {
        OneMirror m = Edge.rich();
        for (int i = 2; i < 10; i++) {
            m.wish(i % 4, i, 15, i);
        }
        return m;
    }

    private static void tenWishes() {
        Check.sentence("III: WISHES, 10 at most; P28: how many");
        OneMirror m = line();
        for (int i = 1; i <= 10; i++) {
            Check.due("wish", m.wish(1, 0, 0, i), i);
            Check.due("WISHES", m.count(7), i);
        }
        Check.due("all of them", m.round(1, -1), 55);
    }

    private static void eleventhWish() {
        Check.sentence("P28: -2, and nothing happens, if there are 10");
        Edge.nothing(EdgeRoundTest::ten, "wish", m -> m.wish(1, 0, 15, 99), -2);
        OneMirror m = ten();
        Check.due("none", m.wish(-1, 0, 0, 0), 0);
        Check.due("wish", m.wish(1, 0, 15, 99), 1);
    }

    private static void roundOfOne() {
        Check.sentence("III: ROUND of n HOURS (1 to 16): in HOUR 0 where it is");
        OneMirror m = line();
        m.wish(0, 0, 0, 9);
        m.wish(1, 0, 0, 4);
        m.wish(0, 1, 1, 1);
        row(m, 4, 1);
        m.wish(2, 2, 2, 5);
        row(m, 5, 1, 0);
        row(m, 9, 1, 1, 2);
    }

    private static void roundOfSixteen() {
        Check.sentence("P29: ROUND of n HOURS (1 to 16)");
        OneMirror m = line();
        m.wish(2, 15, 15, 9);
        row(m, 9, 1, 0, 0, 0, 0, 0, 0, 0, 0, 0, 0, 0, 0, 0, 1, 2);
        row(m, 0, 1, 0, 0, 0, 0, 0, 0, 0, 0, 0, 0, 0, 0, 0, 0);
    }

    private static void roundBeyond() {
        Check.sentence("P29: -2 without these");
        for (int n : new int[] {0, -1, 17, Integer.MIN_VALUE, Integer.MAX_VALUE}) {
            Check.due("round " + n, Edge.rich().round(n, -1), -2);
            Check.due("round " + n + " HOUR 0", Edge.rich().round(n, 0), -2);
        }
    }

    private static void roundWhatBeyond() {
        Check.sentence("P29: what NONE: WORTH, 0 to n less 1: who has the GLASS in that HOUR. -2 without these");
        for (int n = 1; n <= 16; n++) {
            Check.due("round " + n + " what n", Edge.rich().round(n, n), -2);
            Check.due("round " + n + " what -2", Edge.rich().round(n, -2), -2);
            Check.due("round " + n + " the last", Edge.rich().round(n, n - 1) >= 0, true);
            Check.due("round " + n + " the first", Edge.rich().round(n, 0), 1);
        }
        for (int far : Edge.FAR) {
            Check.due("round 16 what " + far, Edge.rich().round(16, far), -2);
        }
    }

    private static void roundWithoutIsland() {
        Check.sentence("P29: -2 without an ISLAND");
        Check.due("WORTH", new OneMirror().round(1, -1), -2);
        Check.due("HOUR 0", new OneMirror().round(1, 0), -2);
    }

    private static void roundWithoutWishes() {
        Check.sentence("III: of several ROUNDS the first as a row");
        row(line(), 0, 1, 0, 0, 0);
        row(Check.withIsland("marks 1;person 0 0"), 0, 0, 0, 0);
        row(Check.withIsland("marks 1;person 0 0;person 0 0;glass 1"), 0, 1, 1, 1);
    }

    private static void servedInItsHours() {
        Check.sentence("III: a WISH is served if it is there in one of its HOURS");
        // two HOURS lie between 0 and 2: with 0 in HOUR 3 there is but HOUR 5 for 2, with 0 in HOUR 5 but HOUR 3
        for (int hour = 2; hour <= 7; hour++) {
            OneMirror m = line();
            m.wish(2, 3, 5, 9);
            m.wish(0, hour, hour, 8);
            Check.due("0 in HOUR " + hour, m.round(8, -1), hour == 4 ? 9 : 17);
        }
    }

    private static void servedOnce() {
        Check.sentence("III: a WISH is served if it is there in one of its HOURS");
        OneMirror m = line();
        m.wish(1, 0, 15, 7);
        for (int n = 1; n <= 16; n++) {
            Check.due("round " + n, m.round(n, -1), 7);
        }
    }

    private static void servedBeyondTheRound() {
        Check.sentence("III: ROUND of n HOURS: a WISH is served if it is there in one of its HOURS");
        OneMirror m = line();
        m.wish(1, 3, 5, 7);
        Check.due("3 HOURS: 0 to 2", m.round(3, -1), 0);
        Check.due("4 HOURS: 0 to 3", m.round(4, -1), 7);
    }

    private static void staysOrGoes() {
        Check.sentence("III: from HOUR to HOUR it stays, or goes by a BOAT");
        OneMirror m = Check.withIsland("marks 1;person 0 0;person 0 0;person 0 0;person 0 0;boat 0 1;boat 1 2;glass 0");
        m.wish(2, 1, 1, 9);
        Check.due("two BOATS in one HOUR", m.round(16, -1), 0);
        m.wish(2, 2, 2, 9);
        Check.due("two BOATS in two", m.round(16, -1), 9);
        m.wish(3, 0, 15, 9);
        Check.due("no BOAT", m.round(16, -1), 9);
    }

    private static void theGreatestTogether() {
        Check.sentence("III: the greatest WORTH together");
        OneMirror m = line();
        m.wish(0, 1, 1, 6);
        m.wish(2, 1, 1, 5);
        m.wish(2, 2, 2, 2);
        m.wish(1, 1, 1, 1);
        // 6 alone, or 5 and 2
        row(m, 6, 1, 0);
        row(m, 7, 1, 2, 2);
    }

    private static void theFirstAsARow() {
        Check.sentence("III: of several ROUNDS the first as a row");
        OneMirror m = line();
        m.wish(0, 2, 2, 5);
        m.wish(2, 2, 2, 5);
        row(m, 5, 1, 0, 0);
        m.wish(1, 1, 1, 1);
        row(m, 6, 1, 1, 0);
        m.wish(2, 1, 2, 1);
        row(m, 7, 1, 1, 2);
    }

    private static void whoKeepsIsNotAsked() {
        Check.sentence("III: Who KEEPS it is not asked");
        OneMirror m = line();
        m.wish(2, 1, 1, 3);
        m.keep(true);
        row(m, 3, 1, 2);
    }

    private static void allTen() {
        Check.sentence("III: the greatest WORTH together");
        OneMirror m = Check.withIsland("marks 1" + ";person 0 0".repeat(8) + ";boat 0 1;boat 1 2;boat 2 3;boat 3 4;boat 4 5"
            + ";boat 5 6;boat 6 7;glass 7");
        for (int i = 0; i < 8; i++) {
            m.wish(i, 0, 15, 99);
        }
        m.wish(7, 14, 15, 99);
        m.wish(0, 7, 7, 99);
        Check.due("all ten", m.round(15, -1), 990);
        row(m, 990, 7, 6, 5, 4, 3, 2, 1, 0, 0, 1, 2, 3, 4, 5, 6, 7);
        Check.due("nine", m.round(14, -1), 891);
    }

    private static void changesNothing() {
        Check.sentence("III: By what is asked nothing changes");
        for (int n : new int[] {0, 1, 16, 17}) {
            Edge.asked(EdgeRoundTest::ten, "round " + n, m -> m.round(n, -1));
            Edge.asked(EdgeRoundTest::ten, "round " + n + " HOUR 0", m -> m.round(n, 0));
        }
    }
}
