import java.util.ArrayList;
import java.util.List;

/**
 * The document told a second time, as plainly as can be and by other means than the class: trees, lists,
 * whole copies for what can be undone, and all rounds tried. ModelTest holds the class against it.
 */
final class Model {
    private static final int NONE = -1;

    /** What makes the readers stop; it carries 1 + 8 * place + kind. */
    private static final class Fault extends Exception {
        private static final long serialVersionUID = 1L;
        final int number;

        Fault(int place, int kind) {
            super("fault");
            number = 1 + 8 * place + kind;
        }
    }

    private record Telling(int teller, int hearer, int of, int face, int hour, int from) {
        boolean isLook() {
            return teller == hearer;
        }
    }

    private record Wish(int person, int from, int to, int worth) {
    }

    private record View(int seen, int there) {
    }

    private static final class Person {
        int face;
        int coins;
        int turns;

        Person(int face, int coins, int turns) {
            this.face = face;
            this.coins = coins;
            this.turns = turns;
        }
    }

    private static final class State {
        int marks;
        int glass;
        boolean kept;
        int hour;
        int inForce = NONE;
        long x;
        List<Person> people = new ArrayList<>();
        int[][] ties = new int[8][8];
        boolean[][] boats = new boolean[8][8];
        List<Telling> tellings = new ArrayList<>();
        List<Wish> wishes = new ArrayList<>();
        List<View> views = new ArrayList<>();

        State copy() {
            State s = new State();
            s.marks = marks;
            s.glass = glass;
            s.kept = kept;
            s.hour = hour;
            s.inForce = inForce;
            s.x = x;
            for (Person p : people) {
                s.people.add(new Person(p.face, p.coins, p.turns));
            }
            for (int i = 0; i < 8; i++) {
                s.ties[i] = ties[i].clone();
                s.boats[i] = boats[i].clone();
            }
            s.tellings.addAll(tellings);
            s.wishes.addAll(wishes);
            s.views.addAll(views);
            return s;
        }
    }

    private interface Node {
        long value(long[] words);
    }

    private record Clause(boolean isTell, Node sum, Node test) {
    }

    private final StringBuilder tape = new StringBuilder();
    private State now = new State();
    private List<State> undone = new ArrayList<>();
    private final List<List<Clause>> rules = new ArrayList<>();
    private final State[] images = new State[4];

    int feed(int a, int b, int c, int d, int e) {
        if (tape.length() + 20 > 400) {
            return NONE;
        }
        for (int n : new int[] {a, b, c, d, e}) {
            tape.append((char) (n >>> 24)).append((char) (n >>> 16 & 255));
            tape.append((char) (n >>> 8 & 255)).append((char) (n & 255));
        }
        return tape.length();
    }

    int end(int n) {
        if (n < 0 || n > tape.length()) {
            return NONE;
        }
        tape.setLength(n);
        return n;
    }

    // ---- the languages, read byte by byte

    private String text;
    private int at;
    private int parts;

    private void blanks() {
        while (at < text.length() && text.charAt(at) == ' ') {
            at++;
        }
    }

    private char peek() {
        blanks();
        return at < text.length() ? text.charAt(at) : '\0';
    }

    private boolean isEnd() {
        blanks();
        return at == text.length();
    }

    private String peekWord() {
        blanks();
        int to = at;
        while (to < text.length() && text.charAt(to) >= 'a' && text.charAt(to) <= 'z') {
            to++;
        }
        return text.substring(at, to);
    }

    private String peekNumber() {
        blanks();
        int to = at;
        while (to < text.length() && Character.isDigit(text.charAt(to)) && text.charAt(to) < 128) {
            to++;
        }
        return text.substring(at, to);
    }

    private int number(int least, int most, int but) throws Fault {
        String digits = peekNumber();
        if (digits.isEmpty()) {
            throw new Fault(at, 0);
        }
        if (digits.length() > 5) {
            throw new Fault(at, 1);
        }
        int n = Integer.parseInt(digits);
        if (n < least || n > most || n == but) {
            throw new Fault(at, 1);
        }
        at += digits.length();
        return n;
    }

    private State readIsland() throws Fault {
        State s = new State();
        int clauses = 0;
        while (true) {
            String word = peekWord();
            if (!List.of("marks", "person", "tie", "boat", "glass").contains(word)) {
                throw new Fault(at, 0);
            }
            if (clauses == 40 || word.equals("marks") && clauses > 0 || !word.equals("marks") && clauses == 0
                || word.equals("person") && s.people.size() == 8) {
                throw new Fault(at, 4);
            }
            clauses++;
            at += word.length();
            int last = s.people.size() - 1;
            if (word.equals("marks")) {
                s.marks = number(1, 6, NONE);
            } else if (word.equals("person")) {
                int face = number(0, (1 << s.marks) - 1, NONE);
                s.people.add(new Person(face, number(0, 99, NONE), 0));
            } else if (word.equals("glass")) {
                s.glass = number(0, last, NONE);
            } else {
                int one = number(0, last, NONE);
                int other = number(0, last, one);
                if (word.equals("tie")) {
                    s.ties[one][other] = number(1, 9, NONE);
                } else {
                    s.boats[one][other] = true;
                    s.boats[other][one] = true;
                }
            }
            if (isEnd()) {
                if (s.people.isEmpty()) {
                    throw new Fault(at, 0);
                }
                return s;
            }
            if (peek() != ';') {
                throw new Fault(at, 0);
            }
            at++;
        }
    }

    private List<Clause> readRule() throws Fault {
        List<Clause> clauses = new ArrayList<>();
        parts = 0;
        while (true) {
            String word = peekWord();
            if (!word.equals("tell") && !word.equals("weigh")) {
                throw new Fault(at, 0);
            }
            if (clauses.size() == 12) {
                throw new Fault(at, 4);
            }
            at += word.length();
            Node sum = readSum();
            Node test = null;
            if (peekWord().equals("if")) {
                at += 2;
                test = readTest(0);
            }
            clauses.add(new Clause(word.equals("tell"), sum, test));
            if (isEnd()) {
                return clauses;
            }
            if (peek() != ';') {
                throw new Fault(at, 0);
            }
            at++;
        }
    }

    private Node readTest(int depth) throws Fault {
        Node left = readPart(depth);
        while (peekWord().equals("or")) {
            at += 2;
            Node a = left;
            Node b = readPart(depth);
            left = w -> a.value(w) != 0 || b.value(w) != 0 ? 1 : 0;
        }
        return left;
    }

    private Node readPart(int depth) throws Fault {
        Node left = readFact(depth);
        while (peekWord().equals("and")) {
            at += 3;
            Node a = left;
            Node b = readFact(depth);
            left = w -> a.value(w) != 0 && b.value(w) != 0 ? 1 : 0;
        }
        return left;
    }

    private Node readFact(int depth) throws Fault {
        boolean isNot = peekWord().equals("not");
        if (isNot || peek() == '[') {
            if (depth == 10) {
                throw new Fault(at, 2);
            }
            if (isNot) {
                at += 3;
                Node inner = readFact(depth + 1);
                return w -> inner.value(w) == 0 ? 1 : 0;
            }
            at++;
            Node inner = readTest(depth + 1);
            if (peek() != ']') {
                throw new Fault(at, 0);
            }
            at++;
            return inner;
        }
        Node a = readSum();
        blanks();
        String sign = "";
        for (String s : new String[] {"<=", ">=", "<", "=", ">"}) {
            if (sign.isEmpty() && text.startsWith(s, at)) {
                sign = s;
            }
        }
        if (sign.isEmpty()) {
            throw new Fault(at, 0);
        }
        if (++parts > 60) {
            throw new Fault(at, 3);
        }
        at += sign.length();
        Node b = readSum();
        String is = sign;
        return w -> {
            int c = Long.compare(a.value(w), b.value(w));
            return c < 0 && is.contains("<") || c == 0 && is.contains("=") || c > 0 && is.contains(">") ? 1 : 0;
        };
    }

    private Node readSum() throws Fault {
        Node left = readTerm();
        while (peek() == '+' || peek() == '-') {
            boolean isPlus = peek() == '+';
            at++;
            Node a = left;
            Node b = readTerm();
            left = w -> isPlus ? a.value(w) + b.value(w) : a.value(w) - b.value(w);
        }
        return left;
    }

    private Node readTerm() throws Fault {
        Node left = readValue();
        while (peek() == '*' || peek() == '/' || peek() == '%') {
            char sign = peek();
            at++;
            Node a = left;
            Node b = readValue();
            left = w -> {
                long x = a.value(w);
                long y = b.value(w);
                if (sign == '*') {
                    return x * y;
                }
                if (y == 0) {
                    return 0;
                }
                return sign == '/' ? x / y : x - x / y * y;
            };
        }
        return left;
    }

    private Node readValue() throws Fault {
        String word = peekWord();
        String digits = peekNumber();
        int which = List.of("teller", "hearer", "of", "hour", "face", "tie", "moved", "steps").indexOf(word);
        if (digits.isEmpty() && which < 0) {
            throw new Fault(at, 0);
        }
        if (digits.length() > 5) {
            throw new Fault(at, 1);
        }
        if (++parts > 60) {
            throw new Fault(at, 3);
        }
        if (which >= 0) {
            at += word.length();
            return w -> w[which];
        }
        at += digits.length();
        long n = Long.parseLong(digits);
        return w -> n;
    }

    int island() {
        text = tape.toString();
        at = 0;
        tape.setLength(0);
        try {
            State s = readIsland();
            s.inForce = now.inForce;
            s.x = now.x;
            now = s;
            undone.clear();
            return s.people.size();
        } catch (Fault fault) {
            return -2 - fault.number;
        }
    }

    int rule() {
        if (rules.size() == 6) {
            return NONE;
        }
        text = tape.toString();
        at = 0;
        tape.setLength(0);
        try {
            rules.add(readRule());
            return rules.size() - 1;
        } catch (Fault fault) {
            return -2 - fault.number;
        }
    }

    // ---- what is told and believed

    private boolean isRuleOrNone(int rule) {
        return rule >= NONE && rule < rules.size();
    }

    private boolean has(int person) {
        return person >= 0 && person < now.people.size();
    }

    private boolean hasMark(int mark) {
        return mark >= 0 && mark < now.marks;
    }

    /** The held SUM of the first clause that speaks, or NONE. */
    private long speaks(int rule, boolean isTell, long[] words, long most) {
        if (rule == NONE) {
            return NONE;
        }
        for (Clause c : rules.get(rule)) {
            if (c.isTell() == isTell && (c.test() == null || c.test().value(words) != 0)) {
                long v = c.sum().value(words);
                return v < 0 ? 0 : v > most ? most : v;
            }
        }
        return NONE;
    }

    private int steps(State s, Telling t) {
        return t.from() == NONE ? 0 : 1 + steps(s, s.tellings.get(t.from()));
    }

    private long weight(State s, Telling t) {
        long tie = t.isLook() ? 0 : s.ties[t.hearer()][t.teller()];
        long[] words = {t.teller(), t.hearer(), t.of(), s.hour, t.face(), tie, s.hour - t.hour(), steps(s, t)};
        long w = speaks(s.inForce, false, words, 999);
        return w != NONE ? w : t.isLook() ? 99 : 1;
    }

    private long sumOf(State s, int person, int mark) {
        long sum = 0;
        for (Telling t : s.tellings) {
            if (t.of() == person && t.hearer() == person) {
                sum += (t.face() & 1 << mark) != 0 ? weight(s, t) : -weight(s, t);
            }
        }
        return sum;
    }

    private int believed(State s, int person) {
        int bits = 0;
        for (int mark = 0; mark < s.marks; mark++) {
            bits += sumOf(s, person, mark) > 0 ? 1 << mark : 0;
        }
        return bits;
    }

    private int open(State s, int person) {
        int bits = 0;
        for (int mark = 0; mark < s.marks; mark++) {
            bits += sumOf(s, person, mark) == 0 ? 1 << mark : 0;
        }
        return bits;
    }

    private int looked(State s, int person) {
        int n = 0;
        for (Telling t : s.tellings) {
            n += t.isLook() && t.hearer() == person ? 1 : 0;
        }
        return n;
    }

    private int toldFace(State s, int rule, int teller, int hearer, int of) {
        int face = teller == of ? believed(s, of) : s.people.get(of).face;
        long[] words = {teller, hearer, of, s.hour, face, s.ties[hearer][teller], 0, 0};
        long v = speaks(rule, true, words, (1 << s.marks) - 1);
        return v == NONE ? face : (int) v;
    }

    private void lookNow(State s) {
        s.tellings.add(new Telling(s.glass, s.glass, s.glass, s.people.get(s.glass).face, s.hour, NONE));
    }

    // ---- the calls

    int force(int rule) {
        if (!isRuleOrNone(rule)) {
            return -2;
        }
        int was = now.inForce;
        now.inForce = rule;
        return was;
    }

    int person(int person, int what) {
        if (!has(person) || what < 0 || what > 7) {
            return NONE;
        }
        Person p = now.people.get(person);
        int boats = 0;
        for (int q = 0; q < 8; q++) {
            boats += now.boats[person][q] ? 1 << q : 0;
        }
        int keeps = now.kept && now.glass == person ? 1 : 0;
        return new int[] {p.face, p.coins, p.turns, looked(now, person), believed(now, person), open(now, person),
            keeps, boats}[what];
    }

    int sum(int person, int mark) {
        return has(person) && hasMark(mark) ? (int) sumOf(now, person, mark) : -1000000;
    }

    int tie(int one, int other) {
        return has(one) && has(other) && one != other ? now.ties[one][other] : NONE;
    }

    int telling(int telling, int what) {
        if (telling < 0 || telling >= now.tellings.size() || what < 0 || what > 6) {
            return -2;
        }
        Telling t = now.tellings.get(telling);
        return new int[] {t.teller(), t.hearer(), t.of(), t.face(), t.hour(), t.from(), t.isLook() ? 1 : 0}[what];
    }

    private void remember() {
        undone.add(now.copy());
        if (undone.size() > 20) {
            undone.remove(0);
        }
    }

    private boolean canAct() {
        return !now.people.isEmpty() && now.hour < 9999;
    }

    int tell(int rule, int teller, int hearer, int of) {
        if (!isRuleOrNone(rule) || !has(teller) || !has(hearer) || teller == hearer || !has(of) || !canAct()
            || now.tellings.size() == 40) {
            return NONE;
        }
        remember();
        now.tellings.add(new Telling(teller, hearer, of, toldFace(now, rule, teller, hearer, of), now.hour, NONE));
        now.hour++;
        return now.tellings.size() - 1;
    }

    int retell(int telling, int hearer, int slips) {
        if (telling < 0 || telling >= now.tellings.size() || !has(hearer) || slips < 0 || slips >= 1 << now.marks
            || !canAct() || now.tellings.size() == 40 || now.tellings.get(telling).hearer() == hearer) {
            return NONE;
        }
        remember();
        Telling t = now.tellings.get(telling);
        now.tellings.add(new Telling(t.hearer(), hearer, t.of(), t.face() ^ slips, now.hour, telling));
        now.hour++;
        return now.tellings.size() - 1;
    }

    int look() {
        if (!canAct() || now.tellings.size() == 40) {
            return NONE;
        }
        remember();
        lookNow(now);
        now.hour++;
        return now.tellings.size() - 1;
    }

    int give(int person) {
        if (!canAct() || !has(person) || now.kept || !now.boats[now.glass][person]) {
            return NONE;
        }
        remember();
        now.glass = person;
        return ++now.hour;
    }

    int save() {
        if (!canAct()) {
            return NONE;
        }
        remember();
        now.hour++;
        return ++now.people.get(now.glass).turns;
    }

    int sell(int one, int other, int coins) {
        if (!has(one) || !has(other) || one == other || coins < 0 || now.people.get(one).turns == 0
            || now.people.get(other).coins < coins) {
            return NONE;
        }
        remember();
        now.people.get(one).turns--;
        now.people.get(other).turns++;
        now.people.get(one).coins += coins;
        return now.people.get(other).coins -= coins;
    }

    int spend(int person) {
        if (!canAct() || !has(person) || now.glass == person || now.people.get(person).turns == 0) {
            return NONE;
        }
        remember();
        now.people.get(person).turns--;
        now.glass = person;
        now.kept = false;
        return ++now.hour;
    }

    boolean keep(boolean is) {
        if (now.people.isEmpty() || now.kept == is) {
            return false;
        }
        remember();
        now.kept = is;
        return true;
    }

    int rest() {
        if (!canAct()) {
            return NONE;
        }
        remember();
        return ++now.hour;
    }

    /** A copy knows all, but what no ACT touches stays as it is now. */
    int undo() {
        if (undone.isEmpty()) {
            return NONE;
        }
        State s = undone.remove(undone.size() - 1);
        s.wishes = now.wishes;
        s.views = now.views;
        s.inForce = now.inForce;
        s.x = now.x;
        now = s;
        return undone.size();
    }

    int run(int rule, int n) {
        if (rule == NONE || !isRuleOrNone(rule) || now.people.isEmpty() || n < 1 || n > 60 || now.hour + n > 9999) {
            return NONE;
        }
        undone.clear();
        while (n-- > 0) {
            boolean did = looked(now, now.glass) > 0;
            if (!did && now.tellings.size() < 40) {
                lookNow(now);
            }
            int teller = now.hour % now.people.size();
            int hearer = NONE;
            for (int q = now.people.size() - 1; q >= 0; q--) {
                if (q != teller && now.ties[q][teller] > 0
                    && (hearer == NONE || now.ties[q][teller] >= now.ties[hearer][teller])) {
                    hearer = q;
                }
            }
            if (did && hearer != NONE && now.tellings.size() < 40) {
                int face = toldFace(now, rule, teller, hearer, hearer);
                now.tellings.add(new Telling(teller, hearer, hearer, face, now.hour, NONE));
            }
            int from = now.glass;
            for (int q = now.people.size() - 1; q >= 0 && !now.kept; q--) {
                if (now.boats[from][q] && looked(now, q) == 0) {
                    now.glass = q;
                }
            }
            now.hour++;
        }
        return now.tellings.size();
    }

    int lean(int person) {
        if (!has(person)) {
            return -1000000;
        }
        int lean = 0;
        for (Telling t : now.tellings) {
            for (int mark = 0; mark < now.marks; mark++) {
                if (t.teller() == person && t.of() != person) {
                    boolean isSo = (t.face() >> mark & 1) == (now.people.get(t.of()).face >> mark & 1);
                    lean += isSo ? 1 : -1;
                }
            }
        }
        return lean;
    }

    int likeliest(int person, int what) {
        if (!has(person) || what < 0 || what > 1) {
            return NONE;
        }
        int bits = 0;
        for (int mark = 0; mark < now.marks; mark++) {
            int sum = 0;
            for (Telling t : now.tellings) {
                if (t.of() == person && t.teller() != person) {
                    sum += (t.face() >> mark & 1) == 1 ? lean(t.teller()) : -lean(t.teller());
                }
            }
            if (what == 0 ? sum > 0 : sum == 0) {
                bits |= 1 << mark;
            }
        }
        return bits;
    }

    int flatters(int person, int what) {
        if (now.people.isEmpty() || what < 0 || what > 1 || what == 0 && !has(person)) {
            return -1000000;
        }
        if (what == 1) {
            int best = NONE;
            for (int q = 0; q < now.people.size(); q++) {
                if (flatters(q, 0) > (best == NONE ? 0 : flatters(best, 0))) {
                    best = q;
                }
            }
            return best;
        }
        int n = 0;
        for (Telling t : now.tellings) {
            if (t.teller() == person && t.hearer() == t.of()) {
                for (int mark = 0; mark < now.marks; mark++) {
                    n += (t.face() >> mark & 1) - (now.people.get(t.of()).face >> mark & 1);
                }
            }
        }
        return n;
    }

    int ask(int person, int what) {
        if (!has(person) || what < 0 || what > 1) {
            return NONE;
        }
        int best = -2;
        int most = 0;
        for (int q = now.people.size() - 1; q >= 0; q--) {
            if (q != person) {
                long weight = weight(now, new Telling(q, person, person, 0, now.hour, NONE));
                int n = 0;
                for (int mark = 0; mark < now.marks; mark++) {
                    n += weight > 0 && weight >= Math.abs(sumOf(now, person, mark)) ? 1 : 0;
                }
                if (n >= most) {
                    most = n;
                    best = q;
                }
            }
        }
        return what == 0 ? best : most;
    }

    private List<Integer> chainOf(int telling) {
        List<Integer> chain = new ArrayList<>();
        for (int t = telling; t != NONE; t = now.tellings.get(t).from()) {
            chain.add(0, t);
        }
        return chain;
    }

    int chain(int telling, int what) {
        if (telling < 0 || telling >= now.tellings.size() || what < 0 || what > 2) {
            return NONE;
        }
        List<Integer> chain = chainOf(telling);
        return new int[] {chain.size(), now.tellings.get(chain.get(0)).teller(), chain.get(0)}[what];
    }

    int slip(int telling, int mark) {
        if (telling < 0 || telling >= now.tellings.size() || !hasMark(mark)) {
            return NONE;
        }
        List<Integer> chain = chainOf(telling);
        for (int i = 1; i < chain.size(); i++) {
            int a = now.tellings.get(chain.get(i - 1)).face();
            int b = now.tellings.get(chain.get(i)).face();
            if ((a >> mark & 1) != (b >> mark & 1)) {
                return chain.get(i);
            }
        }
        return -2;
    }

    int wish(int person, int from, int to, int worth) {
        if (person == NONE) {
            now.wishes = new ArrayList<>();
            return 0;
        }
        if (!has(person) || from < 0 || to < from || to > 15 || worth < 1 || worth > 99 || now.wishes.size() == 10) {
            return -2;
        }
        now.wishes.add(new Wish(person, from, to, worth));
        return now.wishes.size();
    }

    /** By a memory of (hour, person, wishes served): the best to come, and the least next person that has it. */
    int round(int n, int what) {
        if (now.people.isEmpty() || n < 1 || n > 16 || what < NONE || what >= n) {
            return -2;
        }
        int sets = 1 << now.wishes.size();
        int[][][] best = new int[n][8][sets];
        for (int hour = n - 1; hour >= 0; hour--) {
            for (int p = 0; p < now.people.size(); p++) {
                for (int set = 0; set < sets; set++) {
                    int then = with(set, hour, p);
                    int most = hour == n - 1 ? worth(then) : -1;
                    for (int q = 0; hour < n - 1 && q < now.people.size(); q++) {
                        if (q == p || now.boats[p][q]) {
                            most = Math.max(most, best[hour + 1][q][then]);
                        }
                    }
                    best[hour][p][set] = most;
                }
            }
        }
        if (what == NONE) {
            return best[0][now.glass][0];
        }
        int p = now.glass;
        int set = 0;
        for (int hour = 0; hour < what; hour++) {
            set = with(set, hour, p);
            int next = NONE;
            for (int q = 0; q < now.people.size() && next == NONE; q++) {
                if ((q == p || now.boats[p][q]) && best[hour + 1][q][set] == best[0][now.glass][0]) {
                    next = q;
                }
            }
            p = next;
        }
        return p;
    }

    private int with(int set, int hour, int person) {
        int then = set;
        for (int i = 0; i < now.wishes.size(); i++) {
            Wish w = now.wishes.get(i);
            if (w.person() == person && w.from() <= hour && hour <= w.to()) {
                then |= 1 << i;
            }
        }
        return then;
    }

    private int worth(int set) {
        int worth = 0;
        for (int i = 0; i < now.wishes.size(); i++) {
            worth += (set >> i & 1) * now.wishes.get(i).worth();
        }
        return worth;
    }

    int view(int seen, int there) {
        if (seen == NONE) {
            now.views = new ArrayList<>();
            return 0;
        }
        if (now.people.isEmpty() || seen < 1 || seen >= 1 << now.marks || (seen | there) != seen || now.views.size() == 8) {
            return -2;
        }
        now.views.add(new View(seen, there));
        return now.views.size();
    }

    int fits(int view) {
        if (view < 0 || view >= now.views.size()) {
            return NONE;
        }
        int bits = 0;
        for (int p = 0; p < now.people.size(); p++) {
            bits += canBe(now.views.get(view), now.people.get(p).face) ? 1 << p : 0;
        }
        return bits;
    }

    private static boolean canBe(View v, int face) {
        return ((face ^ v.there()) & v.seen()) == 0;
    }

    int views(int what) {
        if (now.people.isEmpty() || what < 0 || what > 2) {
            return NONE;
        }
        if (what == 0) {
            int groups = 0;
            while (!canGroup(0, new ArrayList<>(), groups)) {
                groups++;
            }
            return groups;
        }
        int most = -1;
        int bits = 0;
        for (int p = 0; p < now.people.size(); p++) {
            int n = 0;
            for (View v : now.views) {
                n += canBe(v, now.people.get(p).face) ? 1 : 0;
            }
            if (n > most) {
                most = n;
                bits = 0;
            }
            if (n == most) {
                bits |= 1 << p;
            }
        }
        return what == 1 ? bits : most;
    }

    /** Views are of one face if no two of them tell one mark otherwise; so faces are groups of views. */
    private boolean canGroup(int next, List<View> groups, int most) {
        if (next == now.views.size()) {
            return true;
        }
        View v = now.views.get(next);
        for (int i = 0; i < groups.size(); i++) {
            View g = groups.get(i);
            if (((g.there() ^ v.there()) & g.seen() & v.seen()) == 0) {
                groups.set(i, new View(g.seen() | v.seen(), g.there() | v.there()));
                boolean can = canGroup(next + 1, groups, most);
                groups.set(i, g);
                if (can) {
                    return true;
                }
            }
        }
        if (groups.size() == most) {
            return false;
        }
        groups.add(v);
        boolean can = canGroup(next + 1, groups, most);
        groups.remove(groups.size() - 1);
        return can;
    }

    int seed(int x) {
        if (x < 0) {
            return NONE;
        }
        int was = (int) now.x;
        now.x = x;
        return was;
    }

    private long x;

    private int draw() {
        x = (x * 1103515245L + 12345L) % 2147483648L;
        return (int) (x / 65536);
    }

    int drawn(int rule, int m, int n, int p, int what) {
        if (!isRuleOrNone(rule) || now.people.isEmpty() || m < 1 || m > 20 || n < 1 || n > 60 || p < 0 || p > 100
            || what < 0 || what > 1) {
            return NONE;
        }
        int all = 0;
        x = now.x;
        for (int time = 0; time < m; time++) {
            State s = now.copy();
            for (int hour = 0; hour < n; hour++) {
                int teller = draw() % s.people.size();
                int hearer = draw() % s.people.size();
                boolean isRoom = s.tellings.size() < 40;
                if (isRoom && teller != hearer) {
                    int face = toldFace(s, rule, teller, hearer, hearer);
                    for (int mark = 0; mark < s.marks; mark++) {
                        face ^= draw() % 100 < p ? 1 << mark : 0;
                    }
                    s.tellings.add(new Telling(teller, hearer, hearer, face, s.hour, NONE));
                } else if (isRoom && s.glass == teller) {
                    lookNow(s);
                }
                s.hour++;
            }
            for (int q = 0; q < s.people.size(); q++) {
                all += what == 1 ? Integer.bitCount(open(s, q)) : believed(s, q) == s.people.get(q).face ? 1 : 0;
            }
        }
        return all;
    }

    int count(int what) {
        if (what < 0 || what > 11) {
            return NONE;
        }
        return new int[] {now.marks, now.people.size(), rules.size(), now.inForce, now.hour,
            now.people.isEmpty() ? NONE : now.glass, now.tellings.size(), now.wishes.size(), now.views.size(),
            undone.size(), (int) now.x, tape.length()}[what];
    }

    int image(int k) {
        if (k < 0 || k > 3) {
            return NONE;
        }
        images[k] = now.copy();
        undone.clear();
        return now.hour;
    }

    int back(int k) {
        if (k < 0 || k > 3 || images[k] == null) {
            return NONE;
        }
        now = images[k].copy();
        undone.clear();
        return now.hour;
    }
}
