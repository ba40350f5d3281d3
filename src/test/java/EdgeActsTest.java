import java.util.List;
import java.util.function.ToLongFunction;

/** The edges of promises 14 to 20: GIVE, SAVE, SELL, SPEND, KEEP, REST, and what is UNDONE. */
public final class EdgeActsTest {
    private EdgeActsTest() {
    }

    public static void main(String[] args) {
        giveByABoat();
        giveWithoutABoat();
        giveWhatIsKept();
        giveWithoutThese();
        giveAtTheLastHour();
        saveOneMore();
        saveIsNoLook();
        saveWithoutIsland();
        saveAtTheLastHour();
        sellForNothing();
        sellForAll();
        sellForTooMuch();
        sellBelowNothing();
        sellWithoutATurn();
        sellUnlike();
        sellWithoutThese();
        sellAtTheLastHour();
        spendFromOneWhoKeeps();
        spendWithoutATurn();
        spendWithTheGlass();
        spendWithoutThese();
        spendAtTheLastHour();
        keepIfItIsSo();
        keepWithoutIsland();
        keepAtTheLastHour();
        noMoreKept();
        restWithoutIsland();
        restAtTheLastHour();
        hoursOfActs();
        undoEachAct();
        undoOfTwenty();
        undoOfTwentyOne();
        undoOfSellAndKeep();
        undoOfNone();
        undoAtTheLastHour();
        undoAfterAnother();
        undoWithEightPeople();
        Check.finish();
    }

    private static OneMirror last() {
        return Edge.quiet(9999);
    }

    private static OneMirror oneBefore() {
        return Edge.quiet(9998);
    }

    private static void giveByABoat() {
        Check.sentence("P14: GIVE: HOUR");
        OneMirror m = Edge.unkept();
        Check.due("give 2", m.give(2), 8);
        Check.due("GLASS", m.count(5), 2);
        Check.due("give 1, the other way", m.give(1), 9);
        Check.due("give 0", m.give(0), 10);
        Check.due("GLASS", m.count(5), 0);
    }

    private static void giveWithoutABoat() {
        Check.sentence("P14: NONE, and nothing happens, if no BOAT goes there");
        Edge.nothing(Edge::unkept, "no BOAT goes to 3", m -> m.give(3), -1);
        Edge.nothing(Edge::unkept, "to oneself", m -> m.give(1), -1);
        Edge.nothing(() -> Edge.with(Edge::unkept, m -> m.give(0)), "two BOATS away", m -> m.give(2), -1);
    }

    private static void giveWhatIsKept() {
        Check.sentence("P14: NONE, and nothing happens, if it is KEPT");
        Edge.nothing(Edge::rich, "give 0", m -> m.give(0), -1);
        Edge.nothing(Edge::rich, "give 2", m -> m.give(2), -1);
    }

    private static void giveWithoutThese() {
        Check.sentence("P14: NONE, and nothing happens, without these");
        Edge.nothing(OneMirror::new, "no ISLAND", m -> m.give(0), -1);
        for (int person : new int[] {-1, 4, 8, 32, 33, Integer.MIN_VALUE, Integer.MAX_VALUE}) {
            Edge.nothing(Edge::unkept, "give " + person, m -> m.give(person), -1);
        }
    }

    private static void giveAtTheLastHour() {
        Check.sentence("P14: NONE, and nothing happens, at HOUR 9999");
        Edge.nothing(EdgeActsTest::last, "give", m -> m.give(1 - m.count(5)), -1);
        OneMirror m = oneBefore();
        Check.due("in the HOUR before", m.give(1 - m.count(5)), 9999);
    }

    private static void saveOneMore() {
        Check.sentence("P15: SAVE: TURNS of who has the GLASS");
        OneMirror m = Edge.unkept();
        Check.due("save", m.save(), 2);
        Check.due("save", m.save(), 3);
        m.give(2);
        Check.due("save", m.save(), 1);
        Check.due("TURNS of 1", m.person(1, 2), 3);
        Check.due("who keeps it", Edge.rich().save(), 2);
    }

    private static void saveIsNoLook() {
        Check.sentence("II: they do not LOOK in it then");
        OneMirror m = Check.withIsland("marks 1;person 1 0");
        Check.due("save", m.save(), 1);
        Check.due("TELLINGS", m.count(6), 0);
        Check.due("LOOKED", m.person(0, 3), 0);
        Check.due("HOUR", m.count(4), 1);
    }

    private static void saveWithoutIsland() {
        Check.sentence("P15: NONE, and nothing happens, without an ISLAND");
        Edge.nothing(OneMirror::new, "save", OneMirror::save, -1);
    }

    private static void saveAtTheLastHour() {
        Check.sentence("P15: NONE, and nothing happens, at HOUR 9999");
        Edge.nothing(EdgeActsTest::last, "save", OneMirror::save, -1);
        OneMirror m = oneBefore();
        Check.due("in the HOUR before", m.save(), m.person(m.count(5), 2));
        Check.due("HOUR", m.count(4), 9999);
    }

    private static void sellForNothing() {
        Check.sentence("II: a TURN is SOLD to another one for COINS (0 and on)");
        OneMirror m = Edge.rich();
        Check.due("sell", m.sell(1, 2, 0), 0);
        Check.due("COINS of 1", m.person(1, 1), 57);
        Check.due("TURNS of 1", m.person(1, 2), 0);
        Check.due("TURNS of 2", m.person(2, 2), 1);
    }

    private static void sellForAll() {
        Check.sentence("II: for COINS that one has; P16: COINS of the one who buys then");
        OneMirror m = Edge.rich();
        Check.due("all but one", m.sell(0, 3, 48), 1);
        Check.due("all", m.sell(1, 3, 1), 0);
        Check.due("COINS of 0", m.person(0, 1), 54);
        Check.due("COINS of 1", m.person(1, 1), 58);
        Check.due("COINS of 3", m.person(3, 1), 0);
        Check.due("TURNS of 3", m.person(3, 2), 3);
        Check.due("above 99", m.sell(3, 1, 58), 0);
        Check.due("above 99", m.sell(3, 0, 54), 0);
        Check.due("COINS of 3", m.person(3, 1), 112);
    }

    private static void sellForTooMuch() {
        Check.sentence("P16: NONE, and nothing happens, without these (so many COINS)");
        Edge.nothing(Edge::rich, "50 of 49", m -> m.sell(1, 3, 50), -1);
        Edge.nothing(Edge::rich, "1 of 0", m -> m.sell(1, 2, 1), -1);
        Edge.nothing(Edge::rich, "far too much", m -> m.sell(1, 3, Integer.MAX_VALUE), -1);
    }

    private static void sellBelowNothing() {
        Check.sentence("P16: NONE, and nothing happens, without these (0 and on)");
        Edge.nothing(Edge::rich, "-1", m -> m.sell(1, 3, -1), -1);
        Edge.nothing(Edge::rich, "least", m -> m.sell(1, 3, Integer.MIN_VALUE), -1);
    }

    private static void sellWithoutATurn() {
        Check.sentence("P16: NONE, and nothing happens, without these (a TURN)");
        Edge.nothing(Edge::rich, "2 has none", m -> m.sell(2, 3, 1), -1);
        Edge.nothing(() -> Edge.with(Edge::rich, m -> m.sell(1, 3, 1)), "1 has none more", m -> m.sell(1, 3, 1), -1);
        Check.due("the last one", Edge.rich().sell(1, 3, 1), 48);
    }

    private static void sellUnlike() {
        Check.sentence("P16: NONE, and nothing happens, without these (unlike)");
        Edge.nothing(Edge::rich, "1 to 1", m -> m.sell(1, 1, 0), -1);
        Edge.nothing(Edge::rich, "3 to 3", m -> m.sell(3, 3, 1), -1);
    }

    private static void sellWithoutThese() {
        Check.sentence("P16: NONE, and nothing happens, without these");
        Edge.nothing(OneMirror::new, "no ISLAND", m -> m.sell(0, 1, 0), -1);
        for (int person : new int[] {-1, 4, 8, Integer.MIN_VALUE, Integer.MAX_VALUE}) {
            Edge.nothing(Edge::rich, person + " sells", m -> m.sell(person, 1, 0), -1);
            Edge.nothing(Edge::rich, person + " buys", m -> m.sell(1, person, 0), -1);
        }
    }

    private static void sellAtTheLastHour() {
        Check.sentence("II: SELL, KEEP take none");
        OneMirror m = last();
        Check.due("sell", m.sell(2, 1, 5), 4);
        Check.due("HOUR", m.count(4), 9999);
        Check.due("undo", m.undo(), 2);
        Check.due("COINS", m.person(1, 1), 9);
    }

    private static void spendFromOneWhoKeeps() {
        Check.sentence("II: it comes to them, wherever it is, also from one who KEEPS it; P17: HOUR");
        OneMirror m = Edge.rich();
        Check.due("3, to whom no BOAT goes", m.spend(3), 8);
        Check.due("GLASS", m.count(5), 3);
        Check.due("TURNS of 3", m.person(3, 2), 0);
        Check.due("0", m.spend(0), 9);
        Check.due("GLASS", m.count(5), 0);
    }

    private static void spendWithoutATurn() {
        Check.sentence("P17: NONE, and nothing happens, without these (no TURN)");
        Edge.nothing(Edge::rich, "2 has none", m -> m.spend(2), -1);
        Edge.nothing(() -> Edge.with(Edge::rich, m -> m.spend(0) + m.spend(3)), "0 has none more", m -> m.spend(0), -1);
    }

    private static void spendWithTheGlass() {
        Check.sentence("P17: NONE, and nothing happens, without these (they have the GLASS)");
        Edge.nothing(Edge::rich, "1 has the GLASS and keeps it", m -> m.spend(1), -1);
        Edge.nothing(Edge::unkept, "1 has the GLASS", m -> m.spend(1), -1);
    }

    private static void spendWithoutThese() {
        Check.sentence("P17: NONE, and nothing happens, without these");
        Edge.nothing(OneMirror::new, "no ISLAND", m -> m.spend(0), -1);
        for (int person : new int[] {-1, 4, 8, Integer.MIN_VALUE, Integer.MAX_VALUE}) {
            Edge.nothing(Edge::rich, "spend " + person, m -> m.spend(person), -1);
        }
    }

    private static void spendAtTheLastHour() {
        Check.sentence("P17: NONE, and nothing happens, at HOUR 9999");
        Edge.nothing(EdgeActsTest::last, "spend", m -> m.spend(2), -1);
        Check.due("in the HOUR before", oneBefore().spend(2), 9999);
    }

    private static void keepIfItIsSo() {
        Check.sentence("P18: false, and nothing happens, if it is so");
        Edge.nothing(Edge::rich, "keep what is KEPT", m -> m.keep(true) ? 1 : 0, 0);
        Edge.nothing(Edge::unkept, "no more what is not", m -> m.keep(false) ? 1 : 0, 0);
        Check.due("no more", Edge.rich().keep(false), true);
        Check.due("keep", Edge.unkept().keep(true), true);
    }

    private static void keepWithoutIsland() {
        Check.sentence("P18: false, and nothing happens, without an ISLAND");
        Edge.nothing(OneMirror::new, "keep", m -> m.keep(true) ? 1 : 0, 0);
        Edge.nothing(OneMirror::new, "keep no more", m -> m.keep(false) ? 1 : 0, 0);
    }

    private static void keepAtTheLastHour() {
        Check.sentence("II: SELL, KEEP take none");
        OneMirror m = last();
        Check.due("keep", m.keep(true), true);
        Check.due("no more", m.keep(false), true);
        Check.due("HOUR", m.count(4), 9999);
        Check.due("undo", m.undo(), 3);
        Check.due("KEPT", m.person(m.count(5), 6), 1);
    }

    private static void noMoreKept() {
        Check.sentence("P18: It is no more KEPT as soon as another one has it");
        OneMirror m = Edge.rich();
        m.spend(3);
        for (int p = 0; p < 4; p++) {
            Check.due("KEEPS " + p, m.person(p, 6), 0);
        }
        m.spend(1);
        Check.due("back at 1", m.person(1, 6), 0);
        Check.due("give goes", m.give(0), 10);
        Check.due("it can be KEPT anew", m.keep(true), true);
        Check.due("by 0", m.person(0, 6), 1);
    }

    private static void restWithoutIsland() {
        Check.sentence("P19: NONE, and nothing happens, without an ISLAND");
        Edge.nothing(OneMirror::new, "rest", OneMirror::rest, -1);
    }

    private static void restAtTheLastHour() {
        Check.sentence("P19: NONE, and nothing happens, at HOUR 9999");
        Edge.nothing(EdgeActsTest::last, "rest", OneMirror::rest, -1);
        Check.due("in the HOUR before", oneBefore().rest(), 9999);
    }

    private static void hoursOfActs() {
        Check.sentence("II: An HOUR goes by in each ACT of these: GIVE, SAVE, SPEND, REST. SELL, KEEP take none");
        OneMirror m = Edge.unkept();
        m.give(2);
        Check.due("give", m.count(4), 8);
        m.save();
        Check.due("save", m.count(4), 9);
        m.spend(0);
        Check.due("spend", m.count(4), 10);
        m.rest();
        Check.due("rest", m.count(4), 11);
        m.sell(2, 3, 1);
        Check.due("sell", m.count(4), 11);
        m.keep(true);
        Check.due("keep", m.count(4), 11);
    }

    private static void undoEachAct() {
        Check.sentence("P20: The last ACT is UNDONE: how many more can be");
        List<ToLongFunction<OneMirror>> acts = List.of(m -> m.tell(1, 0, 1, 1), m -> m.retell(1, 3, 5), OneMirror::look,
            m -> m.give(0), OneMirror::save, m -> m.sell(1, 3, 9), m -> m.spend(3), m -> m.keep(true) ? 1 : 0,
            OneMirror::rest);
        for (int i = 0; i < acts.size(); i++) {
            ToLongFunction<OneMirror> act = acts.get(i);
            Check.due("undo of ACT " + i, Edge.with(Edge::unkept, act).undo(), 11);
            Edge.alike("undo of ACT " + i, () -> Edge.with(() -> Edge.with(Edge::unkept, act), OneMirror::undo),
                Edge::unkept);
        }
    }

    private static OneMirror rested(int times) {
        OneMirror m = Edge.early();
        for (int i = 0; i < times; i++) {
            m.rest();
        }
        return m;
    }

    private static void undoOfTwenty() {
        Check.sentence("II: The last 20 of all of these ACTS can be UNDONE, the last first");
        OneMirror m = rested(20);
        Check.due("ACTS", m.count(9), 20);
        for (int i = 19; i >= 0; i--) {
            Check.due("undo", m.undo(), i);
            Check.due("HOUR", m.count(4), i);
        }
        Check.due("no more", m.undo(), -1);
    }

    private static void undoOfTwentyOne() {
        Check.sentence("II: The last 20 of all of these ACTS can be UNDONE");
        for (int times = 21; times <= 45; times++) {
            OneMirror m = rested(times);
            Check.due("ACTS", m.count(9), 20);
            for (int i = 19; i >= 0; i--) {
                Check.due("undo", m.undo(), i);
            }
            Check.due("no more", m.undo(), -1);
            Check.due("HOUR", m.count(4), times - 20);
        }
    }

    private static void undoOfSellAndKeep() {
        Check.sentence("II: The last 20 of all of these ACTS (SELL and KEEP, too)");
        OneMirror m = Edge.unkept();
        for (int i = 0; i < 10; i++) {
            m.keep(i % 2 == 0);
            m.sell(i % 2 == 0 ? 1 : 3, i % 2 == 0 ? 3 : 1, 2);
        }
        Check.due("ACTS", m.count(9), 20);
        Check.due("undo", m.undo(), 19);
        Check.due("COINS of 3", m.person(3, 1), 47);
        Check.due("undo", m.undo(), 18);
        Check.due("KEPT", m.person(1, 6), 1);
        for (int i = 17; i >= 0; i--) {
            Check.due("undo", m.undo(), i);
        }
        Check.due("no more", m.undo(), -1);
        Check.due("HOUR", m.count(4), 7);
        Check.due("COINS of 3", m.person(3, 1), 49);
        Check.due("KEPT", m.person(1, 6), 0);
    }

    private static void undoOfNone() {
        Check.sentence("P20: NONE, and nothing happens: none can");
        Edge.nothing(OneMirror::new, "no ISLAND", OneMirror::undo, -1);
        Edge.nothing(Edge::early, "no ACT", OneMirror::undo, -1);
        Edge.nothing(() -> Edge.with(Edge::rich, m -> m.image(0)), "no ACT since an IMAGE", OneMirror::undo, -1);
        Edge.nothing(() -> {
            OneMirror m = rested(25);
            for (int i = 0; i < 20; i++) {
                m.undo();
            }
            return m;
        }, "twenty were", OneMirror::undo, -1);
    }

    private static void undoAtTheLastHour() {
        Check.sentence("P20: The last ACT is UNDONE");
        OneMirror m = last();
        Check.due("undo", m.undo(), 1);
        Check.due("HOUR", m.count(4), 9998);
        Check.due("rest", m.rest(), 9999);
    }

    private static void undoWithEightPeople() {
        Check.sentence("P20: The last ACT is UNDONE");
        OneMirror m = Check.withIsland("marks 1" + ";person 0 9".repeat(8) + ";glass 0;boat 0 7");
        m.save();
        m.sell(0, 7, 4);
        m.give(7);
        m.save();
        m.sell(7, 0, 14);
        Check.due("0 has 13 COINS alone", m.count(9), 4);
        m.sell(7, 0, 12);
        for (int i = 4; i >= 0; i--) {
            Check.due("undo", m.undo(), i);
            Check.due("COINS of 0", m.person(0, 1), i >= 2 ? 13 : 9);
            Check.due("COINS of 7", m.person(7, 1), i >= 2 ? 5 : 9);
            Check.due("TURNS of 0", m.person(0, 2), i == 1 ? 1 : 0);
            Check.due("TURNS of 7", m.person(7, 2), i == 4 ? 2 : i >= 2 ? 1 : 0);
            for (int p = 1; p < 7; p++) {
                Check.due("COINS of " + p, m.person(p, 1), 9);
                Check.due("TURNS of " + p, m.person(p, 2), 0);
            }
        }
    }

    private static void undoAfterAnother() {
        Check.sentence("II: the last first");
        OneMirror m = Edge.unkept();
        m.give(0);
        m.give(1);
        Check.due("undo", m.undo(), 12);
        Check.due("GLASS", m.count(5), 0);
        m.save();
        Check.due("undo the save", m.undo(), 12);
        Check.due("GLASS", m.count(5), 0);
        Check.due("TURNS of 0", m.person(0, 2), 1);
        Check.due("undo the first give", m.undo(), 11);
        Check.due("GLASS", m.count(5), 1);
    }
}
