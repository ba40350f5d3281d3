/** Promises 14 to 20: the GLASS given, TURNS saved, sold and spent, who keeps it, rest, and what is undone. */
public final class ActsTest {
    private static final String ISLAND =
        "marks 2;person 1 10;person 2 3;person 3 0;person 0 99;boat 0 1;boat 1 2;glass 1";

    private ActsTest() {
    }

    public static void main(String[] args) {
        give();
        save();
        sell();
        spend();
        keep();
        rest();
        undoEach();
        undoTwenty();
        undoLeavesTheRest();
        Check.finish();
    }

    private static void give() {
        OneMirror m = Check.withIsland(ISLAND);
        Check.due("to oneself", m.give(1), -1);
        Check.due("no BOAT", m.give(3), -1);
        Check.due("nobody", m.give(4), -1);
        Check.due("nobody", m.give(-1), -1);
        Check.due("far", m.give(Integer.MAX_VALUE), -1);
        Check.due("HOUR", m.count(4), 0);
        Check.due("give 2", m.give(2), 1);
        Check.due("GLASS", m.count(5), 2);
        Check.due("no BOAT goes on", m.give(0), -1);
        Check.due("give 1", m.give(1), 2);
        Check.due("give 0", m.give(0), 3);
        m.keep(true);
        Check.due("KEPT", m.give(1), -1);
        m.keep(false);
        Check.due("no more", m.give(1), 4);
        Check.due("ACTS", m.count(9), 6);
    }

    private static void save() {
        OneMirror m = Check.withIsland(ISLAND);
        Check.due("save", m.save(), 1);
        Check.due("save", m.save(), 2);
        m.give(0);
        Check.due("save", m.save(), 1);
        Check.due("TURNS", m.person(0, 2), 1);
        Check.due("TURNS", m.person(1, 2), 2);
        Check.due("HOUR", m.count(4), 4);
        m.keep(true);
        Check.due("who keeps it saves too", m.save(), 2);
    }

    private static void sell() {
        OneMirror m = Check.withIsland(ISLAND);
        Check.due("no TURN", m.sell(1, 0, 1), -1);
        m.save();
        m.save();
        m.save();
        Check.due("alike", m.sell(1, 1, 0), -1);
        Check.due("too many COINS", m.sell(1, 0, 11), -1);
        Check.due("below 0", m.sell(1, 0, -1), -1);
        Check.due("nobody", m.sell(1, 4, 0), -1);
        Check.due("nobody", m.sell(4, 1, 0), -1);
        Check.due("nobody", m.sell(-1, 1, 0), -1);
        Check.due("nobody", m.sell(1, Integer.MIN_VALUE, 0), -1);
        Check.due("sell", m.sell(1, 0, 10), 0);
        Check.due("COINS", m.person(0, 1), 0);
        Check.due("COINS", m.person(1, 1), 13);
        Check.due("TURNS", m.person(0, 2), 1);
        Check.due("TURNS", m.person(1, 2), 2);
        Check.due("for nothing", m.sell(1, 0, 0), 0);
        Check.due("above 99", m.sell(0, 3, 99), 0);
        Check.due("sold back", m.sell(3, 0, 99), 0);
        Check.due("COINS", m.person(3, 1), 99);
        Check.due("sold on", m.sell(1, 3, 99), 0);
        Check.due("COINS", m.person(1, 1), 112);
        Check.due("no TURN more", m.sell(1, 3, 0), -1);
        Check.due("HOUR", m.count(4), 3);
        Check.due("ACTS", m.count(9), 8);
    }

    private static void spend() {
        OneMirror m = Check.withIsland(ISLAND);
        m.save();
        m.save();
        Check.due("has the GLASS", m.spend(1), -1);
        Check.due("no TURN", m.spend(3), -1);
        Check.due("nobody", m.spend(4), -1);
        Check.due("nobody", m.spend(-1), -1);
        m.sell(1, 3, 5);
        m.keep(true);
        Check.due("wherever it is, also from one who keeps it", m.spend(3), 3);
        Check.due("GLASS", m.count(5), 3);
        Check.due("TURNS", m.person(3, 2), 0);
        Check.due("no more KEPT", m.person(3, 6), 0);
        Check.due("no more KEPT", m.person(1, 6), 0);
        Check.due("KEPT by nobody", m.keep(false), false);
        Check.due("spend", m.spend(1), 4);
        Check.due("GLASS", m.count(5), 1);
        Check.due("no TURN more", m.spend(3), -1);
    }

    private static void keep() {
        OneMirror m = Check.withIsland(ISLAND);
        Check.due("not KEPT", m.keep(false), false);
        Check.due("keep", m.keep(true), true);
        Check.due("KEPT", m.keep(true), false);
        Check.due("who", m.person(1, 6), 1);
        Check.due("who not", m.person(0, 6), 0);
        Check.due("no more", m.keep(false), true);
        Check.due("who", m.person(1, 6), 0);
        Check.due("HOUR", m.count(4), 0);
        Check.due("ACTS", m.count(9), 2);
    }

    private static void rest() {
        OneMirror m = Check.withIsland(ISLAND);
        Check.due("rest", m.rest(), 1);
        Check.due("rest", m.rest(), 2);
        Check.due("HOUR", m.count(4), 2);
        Check.due("GLASS", m.count(5), 1);
        Check.due("TELLINGS", m.count(6), 0);
    }

    private static void undoEach() {
        OneMirror m = Check.withIsland(ISLAND);
        Check.due("nothing", m.undo(), -1);
        m.tell(-1, 0, 1, 1);
        m.retell(0, 2, 0);
        m.look();
        m.save();
        m.sell(1, 0, 4);
        m.keep(true);
        m.spend(0);
        m.give(1);
        m.rest();
        Check.due("HOUR", m.count(4), 7);
        Check.due("rest", m.undo(), 8);
        Check.due("HOUR", m.count(4), 6);
        Check.due("give", m.undo(), 7);
        Check.due("GLASS", m.count(5), 0);
        Check.due("spend", m.undo(), 6);
        Check.due("GLASS", m.count(5), 1);
        Check.due("KEPT again", m.person(1, 6), 1);
        Check.due("TURNS", m.person(0, 2), 1);
        Check.due("HOUR", m.count(4), 4);
        Check.due("keep", m.undo(), 5);
        Check.due("not KEPT", m.person(1, 6), 0);
        Check.due("sell", m.undo(), 4);
        Check.due("COINS", m.person(0, 1), 10);
        Check.due("COINS", m.person(1, 1), 3);
        Check.due("TURNS", m.person(0, 2), 0);
        Check.due("TURNS", m.person(1, 2), 1);
        Check.due("save", m.undo(), 3);
        Check.due("TURNS", m.person(1, 2), 0);
        Check.due("look", m.undo(), 2);
        Check.due("LOOKED", m.person(1, 3), 0);
        Check.due("retell", m.undo(), 1);
        Check.due("TELLINGS", m.count(6), 1);
        Check.due("TELLING 1", m.telling(1, 0), -2);
        Check.due("tell", m.undo(), 0);
        Check.due("TELLINGS", m.count(6), 0);
        Check.due("HOUR", m.count(4), 0);
        Check.due("nothing more", m.undo(), -1);
    }

    private static void undoTwenty() {
        OneMirror m = Check.withIsland(ISLAND);
        for (int i = 0; i < 25; i++) {
            m.rest();
            Check.due("ACTS", m.count(9), Math.min(20, i + 1));
        }
        for (int i = 19; i >= 0; i--) {
            Check.due("undo", m.undo(), i);
        }
        Check.due("no more", m.undo(), -1);
        Check.due("HOUR", m.count(4), 5);
        m.save();
        m.rest();
        Check.due("undo", m.undo(), 1);
        m.look();
        Check.due("undo", m.undo(), 1);
        Check.due("undo", m.undo(), 0);
        Check.due("TURNS", m.person(1, 2), 0);
        Check.due("HOUR", m.count(4), 5);
    }

    private static void undoLeavesTheRest() {
        OneMirror m = Check.withIsland(ISLAND);
        Check.rule(m, "weigh 1");
        m.rest();
        m.force(0);
        m.seed(5);
        m.wish(0, 0, 0, 1);
        m.view(1, 1);
        m.feed(0, 0, 0, 0, 0);
        Check.due("undo", m.undo(), 0);
        Check.due("RULE", m.count(3), 0);
        Check.due("x", m.count(10), 5);
        Check.due("WISHES", m.count(7), 1);
        Check.due("VIEWS", m.count(8), 1);
        Check.due("TAPE", m.count(11), 20);
        m.rest();
        m.drawn(-1, 2, 3, 4, 0);
        m.round(3, -1);
        m.give(9);
        Check.due("what is asked or refused is no ACT", m.count(9), 1);
    }
}
