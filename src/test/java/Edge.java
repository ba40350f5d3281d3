import java.util.ArrayList;
import java.util.List;
import java.util.function.Consumer;
import java.util.function.Supplier;
import java.util.function.ToLongFunction;

/**
 * For the tests of edges: lives of an object to try them in, and all that can be seen of a life, so that a call by
 * which nothing happens can be told from one by which something does.
 *
 * What can be seen is looked at on several objects with the same life: so none has more than 512 calls, and those
 * that undo, go back to images or read the TAPE do not spoil what the others see.
 */
final class Edge {
    static final String ISLAND = "marks 3;person 5 10;person 2 3;person 7 0;person 0 99;"
        + "tie 0 1 4;tie 0 2 2;tie 1 0 9;tie 2 0 9;boat 0 1;boat 1 2;glass 1";
    static final int[] FAR = {Integer.MIN_VALUE, Integer.MIN_VALUE + 1, -1000000, -2, 1000000, Integer.MAX_VALUE};

    private static final List<Consumer<Sight>> SIGHTS = List.of(Edge::seeState, Edge::seeTellings, Edge::seeAnswers,
        Edge::seeUndone, s -> seeImage(s, 0), s -> seeImage(s, 1), s -> seeImage(s, 2), s -> seeImage(s, 3),
        Edge::seeRules, Edge::seeTapeAsRule, Edge::seeTapeAsIsland);

    private Edge() {
    }

    /** An object, and what was seen of it, each with its name. */
    private static final class Sight {
        final OneMirror m;
        final List<String> names = new ArrayList<>();
        final List<Long> answers = new ArrayList<>();

        Sight(OneMirror m) {
            this.m = m;
        }

        void saw(String name, long answer) {
            names.add(name);
            answers.add(answer);
        }
    }

    // ---- lives

    /** Two RULES, one IN FORCE, the ISLAND, and an IMAGE of its first HOUR. */
    static OneMirror early() {
        OneMirror m = new OneMirror();
        Check.rule(m, "tell face + 1 if tie > 3;weigh tie * 2 if moved < 9;weigh 1");
        Check.rule(m, "tell 0");
        m.force(0);
        Check.island(m, ISLAND);
        m.image(2);
        return m;
    }

    /** Something of everything: HOUR 7, ten ACTS to be undone, the GLASS kept by 1, and a text on the TAPE. */
    static OneMirror rich() {
        OneMirror m = early();
        m.tell(-1, 0, 1, 1);
        m.tell(0, 1, 0, 0);
        m.retell(1, 2, 1);
        m.look();
        m.save();
        m.save();
        m.save();
        m.sell(1, 0, 4);
        m.sell(1, 3, 50);
        m.keep(true);
        m.wish(0, 0, 3, 5);
        m.wish(2, 2, 2, 7);
        m.view(1, 1);
        m.view(6, 2);
        m.seed(4711);
        Check.put(m, "marks 2;person 3 1");
        return m;
    }

    /** As rich, but nobody keeps the GLASS. */
    static OneMirror unkept() {
        OneMirror m = rich();
        m.keep(false);
        return m;
    }

    /** As unkept, with 40 TELLINGS. */
    static OneMirror full() {
        OneMirror m = unkept();
        for (int i = m.count(6); i < 40; i++) {
            m.tell(-1, i % 4, (i + 1) % 4, (i + 1) % 4);
        }
        return m;
    }

    /** As unkept, at HOUR 9900 or later, with two ACTS behind the last run. */
    static OneMirror late(int hour) {
        OneMirror m = unkept();
        goOn(m, m.count(4), hour);
        return m;
    }

    /** As late, but with few TELLINGS: nobody heeds anyone, and no BOAT goes but between 0 and 1. */
    static OneMirror quiet(int hour) {
        OneMirror m = new OneMirror();
        Check.rule(m, "tell 1");
        Check.rule(m, "tell 0");
        Check.island(m, "marks 1;person 1 9;person 0 9;person 1 9;boat 0 1");
        m.save();
        m.save();
        m.sell(0, 2, 3);
        goOn(m, m.count(4), hour);
        return m;
    }

    private static void goOn(OneMirror m, int from, int to) {
        int at = from;
        while (at < to - 2) {
            int hours = Math.min(60, to - 2 - at);
            m.run(1, hours);
            at += hours;
        }
        m.rest();
        m.rest();
    }

    // ---- what is due

    /** The call is answered so, and nothing happens. */
    static void nothing(Supplier<OneMirror> life, String name, ToLongFunction<OneMirror> call, long answer) {
        Check.due(name, call.applyAsLong(life.get()), answer);
        alike(name, () -> with(life, call), life);
    }

    /** By what is asked nothing changes, whatever is answered. */
    static void asked(Supplier<OneMirror> life, String name, ToLongFunction<OneMirror> call) {
        alike(name, () -> with(life, call), life);
    }

    static OneMirror with(Supplier<OneMirror> life, ToLongFunction<OneMirror> call) {
        OneMirror m = life.get();
        call.applyAsLong(m);
        return m;
    }

    /** Two lives that have come to the same. */
    static void alike(String name, Supplier<OneMirror> life, Supplier<OneMirror> other) {
        for (Consumer<Sight> sight : SIGHTS) {
            Sight one = seen(life, sight);
            Sight two = seen(other, sight);
            Check.due(name + ": as much is seen", one.answers.size(), two.answers.size());
            for (int i = 0; i < Math.min(one.answers.size(), two.answers.size()); i++) {
                Check.due(name + ": then " + one.names.get(i), one.answers.get(i), two.answers.get(i));
            }
        }
    }

    private static Sight seen(Supplier<OneMirror> life, Consumer<Sight> how) {
        Sight sight = new Sight(life.get());
        how.accept(sight);
        return sight;
    }

    // ---- what can be seen

    private static void seeState(Sight s) {
        for (int what = 0; what < 12; what++) {
            s.saw("count " + what, s.m.count(what));
        }
        int people = s.m.count(1);
        int marks = s.m.count(0);
        for (int p = 0; p < people; p++) {
            for (int what = 0; what < 8; what++) {
                s.saw("person " + p + " " + what, s.m.person(p, what));
            }
            for (int mark = 0; mark < marks; mark++) {
                s.saw("sum " + p + " " + mark, s.m.sum(p, mark));
            }
            for (int q = 0; q < people; q++) {
                s.saw("tie " + p + " " + q, s.m.tie(p, q));
            }
        }
    }

    private static void seeTellings(Sight s) {
        int tellings = s.m.count(6);
        for (int t = 0; t < tellings; t++) {
            for (int what = 0; what < 6; what++) {
                s.saw("telling " + t + " " + what, s.m.telling(t, what));
            }
        }
    }

    private static void seeAnswers(Sight s) {
        for (int n = 1; n <= 16; n += 5) {
            for (int what = -1; what < n; what++) {
                s.saw("round " + n + " " + what, s.m.round(n, what));
            }
        }
        for (int view = 0; view < 8; view++) {
            s.saw("fits " + view, s.m.fits(view));
        }
        for (int what = 0; what < 3; what++) {
            s.saw("views " + what, s.m.views(what));
        }
        for (int what = 0; what < 2; what++) {
            s.saw("drawn " + what, s.m.drawn(-1, 3, 9, 40, what));
            s.saw("flatters most " + what, s.m.flatters(0, what));
            s.saw("likeliest " + what, s.m.likeliest(1, what));
            s.saw("ask " + what, s.m.ask(0, what));
        }
    }

    private static void seeUndone(Sight s) {
        for (int i = 0; i < 21; i++) {
            s.saw("undo " + i, s.m.undo());
            s.saw("HOUR after undo " + i, s.m.count(4));
            s.saw("GLASS after undo " + i, s.m.count(5));
            s.saw("TELLINGS after undo " + i, s.m.count(6));
            s.saw("KEPT after undo " + i, s.m.person(s.m.count(5), 6));
            for (int p = 0; p < 4; p++) {
                s.saw("COINS of " + p + " after undo " + i, s.m.person(p, 1));
                s.saw("TURNS of " + p + " after undo " + i, s.m.person(p, 2));
            }
        }
    }

    private static void seeImage(Sight s, int k) {
        s.saw("back " + k, s.m.back(k));
        seeState(s);
    }

    private static void seeRules(Sight s) {
        for (int r = 0; r < s.m.count(2); r++) {
            s.m.undo();
            s.saw("tell by " + r, s.m.tell(r, 0, 1, 1));
            s.saw("told by " + r, s.m.telling(s.m.count(6) - 1, 3));
            s.saw("force " + r, s.m.force(r));
            s.saw("weighed by " + r, s.m.sum(1, 0));
        }
    }

    private static void seeTapeAsRule(Sight s) {
        s.saw("rule", s.m.rule());
        s.saw("bytes then", s.m.count(11));
    }

    private static void seeTapeAsIsland(Sight s) {
        s.saw("island", s.m.island());
        for (int p = 0; p < s.m.count(1); p++) {
            s.saw("FACE of " + p + " then", s.m.person(p, 0));
            s.saw("COINS of " + p + " then", s.m.person(p, 1));
        }
    }
}
