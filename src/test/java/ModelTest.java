import java.util.Random;

/** Runs of 512 calls, made up by a seed, on the class and on the Model: each answer must be the same. */
public final class ModelTest {
    private static final int RUNS = 1500;
    private static final int MOST_CALLS = 512;

    /** A text of 400 bytes is twenty feeds, an end ahead of them and one behind, and the call that reads it. */
    private static final int MOST_CALLS_AT_ONCE = 23;
    private static final String[] WORDS = {"teller", "hearer", "of", "hour", "face", "tie", "moved", "steps"};
    private static final String[] SIGNS = {"<", "<=", "=", ">=", ">"};
    private static final String[] ODD = {";", "[", "]", "not ", "if ", "or ", "and ", "tell ", "weigh ", "marks ",
        "person ", "tie ", "boat ", "glass ", "+", "-", "*", "/", "%", "<", "=", "<=", "0", "1", "7", "12345", "123456",
        "00001", "x", "A", "\0", "\u00ff", "face", " ", "100", "hours"};

    private final Random random;
    private final OneMirror mirror = new OneMirror();
    private final Model model = new Model();
    private final int run;
    private int number;

    private ModelTest(int run) {
        this.run = run;
        random = new Random(run);
    }

    public static void main(String[] args) {
        int runs = args.length > 0 ? Integer.parseInt(args[0]) : RUNS;
        for (int run = 0; run < runs; run++) {
            new ModelTest(run).play();
        }
        Check.finish();
    }

    private void play() {
        if (random.nextInt(10) != 0) {
            read(islandText(), true);
            for (int i = random.nextInt(4); i > 0; i--) {
                read(ruleText(), false);
            }
        }
        while (number <= MOST_CALLS - MOST_CALLS_AT_ONCE) {
            call(random.nextInt(40));
        }
        while (number < MOST_CALLS) {
            int c = near(13);
            same("count " + c, mirror.count(c), model.count(c));
        }
    }

    private void same(String call, long got, long want) {
        number++;
        Check.due("run " + run + ", call " + number + " " + call, got, want);
    }

    private int less(int n) {
        return random.nextInt(n);
    }

    /** Mostly a number that is there, at times one beside, or far out. */
    private int near(int n) {
        int odd = less(40);
        if (odd == 0) {
            return new int[] {Integer.MIN_VALUE, Integer.MAX_VALUE, -2, -3, 64, 1000000}[less(6)];
        }
        return odd < 4 ? less(n + 3) - 1 : less(Math.max(1, n));
    }

    private int people() {
        return Math.max(1, model.count(1));
    }

    private int tellings() {
        return Math.max(1, model.count(6));
    }

    private int someRule() {
        return less(4) == 0 ? -1 : near(Math.max(1, model.count(2)));
    }

    private void read(String text, boolean isIsland) {
        String cut = text.length() > 400 ? text.substring(0, 400) : text;
        if (model.count(11) > 0) {
            same("end 0", mirror.end(0), model.end(0));
        }
        for (int at = 0; at < cut.length(); at += 20) {
            int[] f = new int[5];
            for (int i = 0; i < 20; i++) {
                f[i / 4] = f[i / 4] << 8 | (at + i < cut.length() ? cut.charAt(at + i) & 255 : 0);
            }
            same("feed", mirror.feed(f[0], f[1], f[2], f[3], f[4]), model.feed(f[0], f[1], f[2], f[3], f[4]));
        }
        same("end", mirror.end(cut.length()), model.end(cut.length()));
        if (isIsland) {
            same("island \"" + cut + "\"", mirror.island(), model.island());
        } else {
            same("rule \"" + cut + "\"", mirror.rule(), model.rule());
        }
    }

    private String blank() {
        return less(5) == 0 ? "  " : "";
    }

    private String islandText() {
        int marks = 1 + less(6);
        int people = 1 + less(8);
        StringBuilder s = new StringBuilder("marks " + marks);
        for (int p = 0; p < people; p++) {
            s.append(";person ").append(less(1 << marks)).append(' ').append(less(3) == 0 ? 0 : less(100)).append(blank());
        }
        for (int i = less(14); i > 0 && people > 1; i--) {
            int one = less(people);
            int other = (one + 1 + less(people - 1)) % people;
            s.append(less(2) == 0 ? ";boat " + one + " " + other : ";tie " + one + " " + other + " " + (1 + less(9)));
        }
        if (less(3) != 0) {
            s.append(";glass ").append(less(people)).append(blank());
        }
        return spoilt(s);
    }

    private String value() {
        return less(2) == 0 ? WORDS[less(8)] : String.valueOf(less(4) == 0 ? less(100000) : less(12));
    }

    private String sum() {
        StringBuilder s = new StringBuilder(value());
        for (int i = less(4); i > 0; i--) {
            s.append(blank()).append("+-*/%".charAt(less(5))).append(blank()).append(value());
        }
        return s.toString();
    }

    private String test(int depth) {
        StringBuilder s = new StringBuilder(fact(depth));
        for (int i = less(3); i > 0; i--) {
            s.append(less(2) == 0 ? " or " : " and ").append(fact(depth));
        }
        return s.toString();
    }

    private String fact(int depth) {
        int which = less(6);
        if (which == 0 && depth < 12) {
            return "not " + fact(depth + 1);
        }
        if (which == 1 && depth < 12) {
            return "[" + test(depth + 1) + "]";
        }
        return sum() + " " + SIGNS[less(5)] + blank() + sum();
    }

    private String ruleText() {
        StringBuilder s = new StringBuilder();
        for (int i = less(less(8) == 0 ? 14 : 4); i >= 0; i--) {
            s.append(less(2) == 0 ? "tell " : "weigh ").append(sum());
            if (less(3) != 0) {
                s.append(" if ").append(test(0));
            }
            s.append(i == 0 ? "" : ";");
        }
        return spoilt(s);
    }

    /** At times a piece is put in, or taken out, or it is cut short. */
    private String spoilt(StringBuilder s) {
        if (less(6) == 0) {
            int at = less(s.length() + 1);
            int how = less(4);
            if (how == 0) {
                s.setLength(at);
            } else if (how == 1) {
                s.delete(at, Math.min(s.length(), at + 1 + less(3)));
            } else {
                s.insert(at, ODD[less(ODD.length)]);
            }
        }
        return s.toString();
    }

    private void call(int which) {
        if (which < 20) {
            act(which);
        } else {
            askNow(which);
        }
    }

    private void act(int which) {
        switch (which) {
            case 0, 1, 2: {
                int r = someRule();
                int a = near(people());
                int b = near(people());
                int of = less(2) == 0 ? b : near(people());
                same("tell " + r + " " + a + " " + b + " " + of, mirror.tell(r, a, b, of), model.tell(r, a, b, of));
                break;
            }
            case 3, 4, 5: {
                int t = near(tellings());
                int h = near(people());
                int s = less(2) == 0 ? 0 : near(1 << model.count(0));
                same("retell " + t + " " + h + " " + s, mirror.retell(t, h, s), model.retell(t, h, s));
                break;
            }
            case 6: same("look", mirror.look(), model.look()); break;
            case 7: {
                int p = near(people());
                same("give " + p, mirror.give(p), model.give(p));
                break;
            }
            case 8: same("save", mirror.save(), model.save()); break;
            case 9: {
                int a = near(people());
                int b = near(people());
                int c = near(8);
                same("sell " + a + " " + b + " " + c, mirror.sell(a, b, c), model.sell(a, b, c));
                break;
            }
            case 10: {
                int p = near(people());
                same("spend " + p, mirror.spend(p), model.spend(p));
                break;
            }
            case 11: {
                boolean is = less(2) == 0;
                same("keep " + is, mirror.keep(is) ? 1 : 0, model.keep(is) ? 1 : 0);
                break;
            }
            case 12: same("rest", mirror.rest(), model.rest()); break;
            case 13, 14: same("undo", mirror.undo(), model.undo()); break;
            case 15: {
                int r = someRule();
                int n = less(2) == 0 ? 1 + less(3) : near(61);
                if (less(3) == 0) {
                    same("run " + r + " " + n, mirror.run(r, n), model.run(r, n));
                }
                break;
            }
            case 16: {
                int r = someRule();
                same("force " + r, mirror.force(r), model.force(r));
                break;
            }
            case 17: {
                if (less(12) == 0) {
                    read(less(2) == 0 ? islandText() : ruleText(), less(2) == 0);
                } else if (less(4) == 0) {
                    read(ruleText(), false);
                }
                break;
            }
            case 18: {
                int k = near(4);
                same("image " + k, mirror.image(k), model.image(k));
                break;
            }
            default: {
                int k = near(4);
                if (less(3) == 0) {
                    same("back " + k, mirror.back(k), model.back(k));
                }
                break;
            }
        }
    }

    private void askNow(int which) {
        int p = near(people());
        int what = near(8);
        int small = near(2);
        int t = near(tellings());
        int mark = near(Math.max(1, model.count(0)));
        switch (which) {
            case 20, 21: same("person " + p + " " + what, mirror.person(p, what), model.person(p, what)); break;
            case 22, 23: same("sum " + p + " " + mark, mirror.sum(p, mark), model.sum(p, mark)); break;
            case 24: {
                int q = near(people());
                same("tie " + p + " " + q, mirror.tie(p, q), model.tie(p, q));
                break;
            }
            case 25: same("telling " + t + " " + what, mirror.telling(t, what), model.telling(t, what)); break;
            case 26: same("lean " + p, mirror.lean(p), model.lean(p)); break;
            case 27: same("likeliest " + p + " " + small, mirror.likeliest(p, small), model.likeliest(p, small)); break;
            case 28: same("flatters " + p + " " + small, mirror.flatters(p, small), model.flatters(p, small)); break;
            case 29: same("ask " + p + " " + small, mirror.ask(p, small), model.ask(p, small)); break;
            case 30: same("chain " + t + " " + what, mirror.chain(t, what % 4), model.chain(t, what % 4)); break;
            case 31: same("slip " + t + " " + mark, mirror.slip(t, mark), model.slip(t, mark)); break;
            case 32, 33: {
                int who = less(25) == 0 ? -1 : p;
                int from = near(16);
                int to = less(3) == 0 ? near(16) : from + less(4);
                int worth = less(2) == 0 ? 1 + less(3) : near(101);
                same("wish " + who + " " + from + " " + to + " " + worth, mirror.wish(who, from, to, worth),
                    model.wish(who, from, to, worth));
                break;
            }
            case 34: {
                int n = less(10) == 0 ? near(18) : 1 + less(16);
                int w = less(5) == 0 ? -1 : near(Math.max(1, Math.min(n, 16)));
                same("round " + n + " " + w, mirror.round(n, w), model.round(n, w));
                break;
            }
            case 35: {
                int seen = less(20) == 0 ? -1 : near(1 << model.count(0));
                int there = less(8) == 0 ? near(1 << model.count(0)) : less(64) & seen;
                same("view " + seen + " " + there, mirror.view(seen, there), model.view(seen, there));
                break;
            }
            case 36: {
                int v = near(8);
                same("fits " + v, mirror.fits(v), model.fits(v));
                break;
            }
            case 37: {
                int w = near(3);
                same("views " + w, mirror.views(w), model.views(w));
                break;
            }
            case 38: {
                int x = less(4) == 0 ? near(9) : less(Integer.MAX_VALUE);
                same("seed " + x, mirror.seed(x), model.seed(x));
                int r = someRule();
                int m = less(10) == 0 ? near(22) : 1 + less(3);
                int n = less(10) == 0 ? near(62) : 1 + less(30);
                int slips = near(101);
                same("drawn " + r + " " + m + " " + n + " " + slips + " " + small, mirror.drawn(r, m, n, slips, small),
                    model.drawn(r, m, n, slips, small));
                break;
            }
            default: {
                int c = near(13);
                same("count " + c, mirror.count(c), model.count(c));
                break;
            }
        }
    }
}
