/** Promises 1, 2, 3 and 35: a new object, the TAPE, and what is counted. */
public final class TapeTest {
    private TapeTest() {
    }

    public static void main(String[] args) {
        newObject();
        feeding();
        ending();
        bytesComeHighestFirst();
        counts();
        Check.finish();
    }

    private static void newObject() {
        OneMirror m = new OneMirror();
        Check.due("NONE", OneMirror.NONE, -1);
        int[] due = {0, 0, 0, -1, 0, -1, 0, 0, 0, 0, 0, 0, -1};
        for (int what = 0; what < due.length; what++) {
            Check.due("new count " + what, m.count(what), due[what]);
        }
        Check.due("count -1", m.count(-1), -1);
        Check.due("count least", m.count(Integer.MIN_VALUE), -1);
        Check.due("person", m.person(0, 0), -1);
        Check.due("sum", m.sum(0, 0), -1000000);
        Check.due("tie", m.tie(0, 1), -1);
        Check.due("telling", m.telling(0, 0), -2);
        Check.due("tell", m.tell(-1, 0, 1, 0), -1);
        Check.due("retell", m.retell(0, 0, 0), -1);
        Check.due("look", m.look(), -1);
        Check.due("give", m.give(0), -1);
        Check.due("save", m.save(), -1);
        Check.due("sell", m.sell(0, 1, 0), -1);
        Check.due("spend", m.spend(0), -1);
        Check.due("keep", m.keep(true), false);
        Check.due("keep not", m.keep(false), false);
        Check.due("rest", m.rest(), -1);
        Check.due("undo", m.undo(), -1);
        Check.due("run", m.run(0, 1), -1);
        Check.due("lean", m.lean(0), -1000000);
        Check.due("likeliest", m.likeliest(0, 0), -1);
        Check.due("flatters 0", m.flatters(0, 0), -1000000);
        Check.due("flatters 1", m.flatters(0, 1), -1000000);
        Check.due("ask", m.ask(0, 0), -1);
        Check.due("chain", m.chain(0, 0), -1);
        Check.due("slip", m.slip(0, 0), -1);
        Check.due("wish", m.wish(0, 0, 0, 1), -2);
        Check.due("no wishes", m.wish(-1, 0, 0, 1), 0);
        Check.due("round", m.round(1, -1), -2);
        Check.due("view", m.view(1, 0), -2);
        Check.due("no views", m.view(-1, 0), 0);
        Check.due("fits", m.fits(0), -1);
        Check.due("views", m.views(0), -1);
        Check.due("drawn", m.drawn(-1, 1, 1, 0, 0), -1);
        Check.due("force none", m.force(-1), -1);
        Check.due("force 0", m.force(0), -2);
        Check.due("back", m.back(0), -1);
        Check.due("island of nothing", m.island(), Check.fault(0, 0));
        Check.due("rule of nothing", m.rule(), Check.fault(0, 0));
    }

    private static void feeding() {
        OneMirror m = new OneMirror();
        for (int i = 1; i <= 20; i++) {
            Check.due("feed " + i, m.feed(-1, i, 0, Integer.MIN_VALUE, 7), 20 * i);
        }
        Check.due("feed beyond", m.feed(0, 0, 0, 0, 0), -1);
        Check.due("bytes", m.count(11), 400);
        Check.due("end 381", m.end(381), 381);
        Check.due("feed beyond by one", m.feed(0, 0, 0, 0, 0), -1);
        Check.due("bytes", m.count(11), 381);
        Check.due("end 380", m.end(380), 380);
        Check.due("feed to the brim", m.feed(0, 0, 0, 0, 0), 400);
    }

    private static void ending() {
        OneMirror m = new OneMirror();
        Check.due("end 0 of none", m.end(0), 0);
        Check.due("end 1 of none", m.end(1), -1);
        m.feed(1, 2, 3, 4, 5);
        Check.due("end 21", m.end(21), -1);
        Check.due("end -1", m.end(-1), -1);
        Check.due("end least", m.end(Integer.MIN_VALUE), -1);
        Check.due("end greatest", m.end(Integer.MAX_VALUE), -1);
        Check.due("bytes", m.count(11), 20);
        Check.due("end 20", m.end(20), 20);
        Check.due("end 3", m.end(3), 3);
        Check.due("end 4", m.end(4), -1);
        Check.due("feed behind them", m.feed(0, 0, 0, 0, 0), 23);
    }

    private static void bytesComeHighestFirst() {
        OneMirror m = new OneMirror();
        // "marks 3;person 5 10;" and "person 2 3" as the shared test has them
        m.feed(1835102827, 1931490107, 1885696627, 1869488181, 540094523);
        m.feed(0x70657273, 0x6f6e2032, 0x20330000, 0, 0);
        Check.due("end", m.end(30), 30);
        Check.due("island", m.island(), 2);
        Check.due("the TAPE is empty then", m.count(11), 0);
        Check.due("FACE 0", m.person(0, 0), 5);
        Check.due("COINS 0", m.person(0, 1), 10);
        Check.due("FACE 1", m.person(1, 0), 2);
        Check.due("COINS 1", m.person(1, 1), 3);
    }

    private static void counts() {
        OneMirror m = Check.withIsland("marks 3;person 5 10;person 2 3;person 7 0;boat 0 1;glass 1");
        Check.due("MARKS", m.count(0), 3);
        Check.due("PEOPLE", m.count(1), 3);
        Check.due("RULES", m.count(2), 0);
        Check.rule(m, "tell 1");
        Check.rule(m, "weigh 1");
        Check.due("RULES", m.count(2), 2);
        m.force(1);
        Check.due("IN FORCE", m.count(3), 1);
        Check.due("HOUR", m.count(4), 0);
        Check.due("GLASS", m.count(5), 1);
        m.look();
        m.give(0);
        m.keep(true);
        Check.due("HOUR", m.count(4), 2);
        Check.due("GLASS", m.count(5), 0);
        Check.due("TELLINGS", m.count(6), 1);
        m.wish(0, 0, 15, 99);
        m.wish(0, 0, 15, 99);
        Check.due("WISHES", m.count(7), 2);
        m.view(1, 0);
        Check.due("VIEWS", m.count(8), 1);
        Check.due("ACTS", m.count(9), 3);
        m.seed(77);
        Check.due("x", m.count(10), 77);
        m.feed(0, 0, 0, 0, 0);
        Check.due("bytes", m.count(11), 20);
        Check.due("count 12", m.count(12), -1);
        Check.due("count greatest", m.count(Integer.MAX_VALUE), -1);
    }
}
