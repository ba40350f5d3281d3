/** Promises 28 and 29: WISHES, and the ROUNDS that serve most of them. */
public final class WishTest {
    private static final String LINE = "marks 1;person 0 0;person 0 0;person 0 0;person 0 0;boat 0 1;boat 1 2;boat 2 3;glass 1";

    private WishTest() {
    }

    public static void main(String[] args) {
        wishes();
        wishesRefused();
        rounds();
        roundsRefused();
        servedOnce();
        firstAsARow();
        keptIsNotAsked();
        tenWishes();
        Check.finish();
    }

    private static void row(OneMirror m, int worth, int... seats) {
        int n = seats.length;
        Check.due("round " + n, m.round(n, -1), worth);
        for (int hour = 0; hour < n; hour++) {
            Check.due("round " + n + " in hour " + hour, m.round(n, hour), seats[hour]);
        }
    }

    private static void wishes() {
        OneMirror m = Check.withIsland(LINE);
        for (int i = 1; i <= 10; i++) {
            Check.due("wish", m.wish(i % 4, i, 15, 10 * i - 1), i);
        }
        Check.due("eleventh", m.wish(0, 0, 0, 1), -2);
        Check.due("WISHES", m.count(7), 10);
        Check.due("none", m.wish(-1, 99, -5, 1000), 0);
        Check.due("WISHES", m.count(7), 0);
        Check.due("wish", m.wish(3, 0, 0, 1), 1);
        Check.due("no ACT", m.count(9), 0);
        Check.due("no HOUR", m.count(4), 0);
    }

    private static void wishesRefused() {
        OneMirror m = Check.withIsland(LINE);
        Check.due("person 4", m.wish(4, 0, 1, 1), -2);
        Check.due("person -2", m.wish(-2, 0, 1, 1), -2);
        Check.due("from -1", m.wish(0, -1, 1, 1), -2);
        Check.due("to below", m.wish(0, 2, 1, 1), -2);
        Check.due("to 16", m.wish(0, 2, 16, 1), -2);
        Check.due("from 16", m.wish(0, 16, 16, 1), -2);
        Check.due("worth 0", m.wish(0, 0, 1, 0), -2);
        Check.due("worth 100", m.wish(0, 0, 1, 100), -2);
        Check.due("worth -1", m.wish(0, 0, 1, -1), -2);
        Check.due("WISHES", m.count(7), 0);
        Check.due("the edges", m.wish(0, 15, 15, 99), 1);
        Check.due("the edges", m.wish(3, 0, 0, 1), 2);
    }

    private static void rounds() {
        OneMirror m = Check.withIsland(LINE);
        m.wish(0, 0, 2, 5);
        m.wish(2, 1, 1, 4);
        m.wish(3, 3, 3, 6);
        row(m, 0, 1);
        row(m, 5, 1, 0);
        row(m, 5, 1, 0, 0);
        row(m, 10, 1, 2, 2, 3);
        row(m, 10, 1, 2, 2, 3, 2);
        Check.due("no HOUR goes by", m.count(4), 0);
        Check.due("the GLASS stays", m.count(5), 1);
        m.give(2);
        row(m, 0, 2);
        // from 2: stays in hour 1, then 3 by hour 3; or back to 0 by hour 2
        row(m, 4, 2, 2);
        row(m, 5, 2, 1, 0);
        row(m, 10, 2, 2, 2, 3);
    }

    private static void roundsRefused() {
        OneMirror m = Check.withIsland(LINE);
        Check.due("n 0", m.round(0, -1), -2);
        Check.due("n 17", m.round(17, -1), -2);
        Check.due("n -1", m.round(-1, -1), -2);
        Check.due("what n", m.round(3, 3), -2);
        Check.due("what -2", m.round(3, -2), -2);
        Check.due("what far", m.round(16, Integer.MAX_VALUE), -2);
        Check.due("n least", m.round(Integer.MIN_VALUE, 0), -2);
        Check.due("n 16", m.round(16, -1), 0);
        Check.due("what 15", m.round(16, 15), 0);
    }

    private static void servedOnce() {
        OneMirror m = Check.withIsland("marks 1;person 0 0;person 0 0");
        m.wish(0, 0, 15, 7);
        row(m, 7, 0, 0, 0, 0);
        m.wish(0, 2, 15, 8);
        m.wish(1, 0, 15, 9);
        row(m, 7, 0, 0);
        row(m, 15, 0, 0, 0);
    }

    private static void firstAsARow() {
        OneMirror m = Check.withIsland(LINE);
        row(m, 0, 1, 0, 0, 0);
        m.wish(2, 3, 3, 1);
        row(m, 0, 1, 0, 0);
        row(m, 1, 1, 0, 1, 2);
        m.wish(0, 3, 3, 1);
        row(m, 1, 1, 0, 0, 0);
        row(m, 1, 1, 0, 0, 0, 0);
    }

    private static void keptIsNotAsked() {
        OneMirror m = Check.withIsland(LINE);
        m.wish(2, 1, 1, 3);
        m.keep(true);
        row(m, 3, 1, 2);
    }

    private static void tenWishes() {
        OneMirror m = Check.withIsland(LINE);
        for (int i = 0; i < 10; i++) {
            m.wish(i % 4, i, i + 1, 1 + i);
        }
        // 0 at 0-1 and 1 at 1-2 (from 1), 2 at 2-3, 3 at 3-4, then 0 at 4-5 can't be had with 3 at 3-4
        Check.due("one hour", m.round(1, -1), 0);
        Check.due("two hours", m.round(2, -1), 2);
        Check.due("three hours", m.round(3, -1), 5);
        Check.due("all hours", m.round(16, -1), m.round(11, -1));
        OneMirror all = Check.withIsland("marks 1;person 0 0");
        int worth = 0;
        for (int i = 0; i < 10; i++) {
            all.wish(0, i, 15 - i / 2, 99 - i);
            worth += 99 - i;
            Check.due("all of them", all.round(16, -1), worth);
        }
        Check.due("five of them", all.round(5, -1), 99 + 98 + 97 + 96 + 95);
    }
}
