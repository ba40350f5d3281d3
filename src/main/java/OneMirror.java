/**
 * The one mirror: an island of people who never see their own face but in one looking-glass,
 * and what they tell one another of it. ../shared/DOC.md says what each call promises.
 *
 * Every row is made with the object and used again, so that no call makes anything.
 */
public final class OneMirror {
    public static final int NONE = -1;

    private static final int REFUSED = -2;
    private static final int NO_SUM = -1000000;
    private static final int LAST_HOUR = 9999;
    private static final int MOST_RULES = 6;
    private static final int MOST_IMAGES = 4;
    private static final int MOST_HOURS = 60;
    private static final int MOST_TIMES = 20;
    private static final int MOST_WORTH = 99;

    private final Tape tape;
    private final Rule[] rules;
    private final Rule noRule;
    private final Isle[] images;
    private final boolean[] isMade;
    private final History history;
    private final Mind mind;
    private final Rounds rounds;
    private final Faces faces;
    private Isle isle;
    private Isle spare;
    private int ruleCount;

    public OneMirror() {
        tape = new Tape();
        rules = new Rule[MOST_RULES];
        for (int i = 0; i < MOST_RULES; i++) {
            rules[i] = new Rule();
        }
        noRule = new Rule();
        images = new Isle[MOST_IMAGES];
        for (int i = 0; i < MOST_IMAGES; i++) {
            images[i] = new Isle();
        }
        isMade = new boolean[MOST_IMAGES];
        history = new History();
        mind = new Mind();
        rounds = new Rounds();
        faces = new Faces();
        isle = new Isle();
        spare = new Isle();
    }

    public int feed(int a, int b, int c, int d, int e) {
        if (tape.used + Tape.BYTES_A_FEED > Tape.ROOM) {
            return NONE;
        }
        tape.append(a);
        tape.append(b);
        tape.append(c);
        tape.append(d);
        tape.append(e);
        return tape.used;
    }

    public int end(int n) {
        if (n < 0 || n > tape.used) {
            return NONE;
        }
        tape.used = n;
        return n;
    }

    public int island() {
        IsleReader.readAll(tape, spare);
        tape.used = 0;
        if (tape.fault != 0) {
            return REFUSED - tape.fault;
        }
        spare.inForce = isle.inForce;
        spare.x = isle.x;
        Isle before = isle;
        isle = spare;
        spare = before;
        history.forget();
        return isle.people;
    }

    public int rule() {
        if (ruleCount < 0 || ruleCount >= MOST_RULES) {
            return NONE;
        }
        RuleReader.readAll(tape, rules[ruleCount]);
        tape.used = 0;
        if (tape.fault != 0) {
            return REFUSED - tape.fault;
        }
        ruleCount++;
        return ruleCount - 1;
    }

    public int force(int rule) {
        if (!isRuleOrNone(rule)) {
            return REFUSED;
        }
        int before = isle.inForce;
        isle.inForce = rule;
        return before;
    }

    public int person(int person, int what) {
        if (!isle.has(person)) {
            return NONE;
        }
        switch (what) {
            case 0: return isle.faces[person];
            case 1: return isle.coins[person];
            case 2: return isle.turns[person];
            case 3: return isle.looksOf(person);
            case 4: return mind.believed(isle, inForce(), person);
            case 5: return mind.open(isle, inForce(), person);
            case 6: return isle.isKept && isle.glass == person ? 1 : 0;
            case 7: return isle.boats[person];
            default: return NONE;
        }
    }

    public int sum(int person, int mark) {
        if (!isle.has(person) || !isle.hasMark(mark)) {
            return NO_SUM;
        }
        mind.addUp(isle, inForce(), person);
        return mind.sums[mark];
    }

    public int tie(int one, int other) {
        return isle.hasTwo(one, other) ? isle.heed(one, other) : NONE;
    }

    public int telling(int telling, int what) {
        if (!isle.tellings.has(telling)) {
            return REFUSED;
        }
        switch (what) {
            case 0: return isle.tellings.at(telling, Isle.TELLER);
            case 1: return isle.tellings.at(telling, Isle.HEARER);
            case 2: return isle.tellings.at(telling, Isle.OF);
            case 3: return isle.tellings.at(telling, Isle.FACE);
            case 4: return isle.tellings.at(telling, Isle.HOUR);
            case 5: return isle.tellings.at(telling, Isle.FROM);
            case 6: return isle.isLook(telling) ? 1 : 0;
            default: return REFUSED;
        }
    }

    public int tell(int rule, int teller, int hearer, int of) {
        if (!isRuleOrNone(rule) || !isle.hasTwo(teller, hearer) || !isle.has(of) || !canTell()) {
            return NONE;
        }
        int seen = teller == of ? mind.believed(isle, inForce(), teller) : isle.faceOf(of);
        int face = mind.told(isle, ruleAt(rule), teller, hearer, of, seen);
        history.remember(isle);
        isle.addTelling(teller, hearer, of, face, NONE);
        isle.hour++;
        return isle.tellings.size - 1;
    }

    public int retell(int telling, int hearer, int slips) {
        if (!isle.tellings.has(telling) || !isle.isFace(slips) || !canTell()) {
            return NONE;
        }
        int teller = isle.tellings.at(telling, Isle.HEARER);
        if (!isle.hasTwo(teller, hearer)) {
            return NONE;
        }
        int of = isle.tellings.at(telling, Isle.OF);
        int face = isle.tellings.at(telling, Isle.FACE) ^ slips;
        history.remember(isle);
        isle.addTelling(teller, hearer, of, face, telling);
        isle.hour++;
        return isle.tellings.size - 1;
    }

    public int look() {
        if (!canTell()) {
            return NONE;
        }
        history.remember(isle);
        isle.addLook();
        isle.hour++;
        return isle.tellings.size - 1;
    }

    public int give(int person) {
        if (!canAct() || isle.isKept || !isle.hasBoat(isle.glass, person)) {
            return NONE;
        }
        history.remember(isle);
        isle.glass = person;
        isle.hour++;
        return isle.hour;
    }

    public int save() {
        if (!canAct() || !isle.has(isle.glass)) {
            return NONE;
        }
        history.remember(isle);
        isle.turns[isle.glass]++;
        isle.hour++;
        return isle.turns[isle.glass];
    }

    public int sell(int one, int other, int coins) {
        if (!isle.hasTwo(one, other) || isle.turns[one] < 1 || coins < 0 || coins > isle.coins[other]) {
            return NONE;
        }
        history.remember(isle);
        isle.turns[one]--;
        isle.turns[other]++;
        isle.coins[one] += coins;
        isle.coins[other] -= coins;
        return isle.coins[other];
    }

    public int spend(int person) {
        if (!canAct() || !isle.has(person) || isle.turns[person] < 1 || isle.glass == person) {
            return NONE;
        }
        history.remember(isle);
        isle.turns[person]--;
        isle.glass = person;
        isle.isKept = false;
        isle.hour++;
        return isle.hour;
    }

    public boolean keep(boolean is) {
        if (isle.people == 0 || isle.isKept == is) {
            return false;
        }
        history.remember(isle);
        isle.isKept = is;
        return true;
    }

    public int rest() {
        if (!canAct()) {
            return NONE;
        }
        history.remember(isle);
        isle.hour++;
        return isle.hour;
    }

    public int undo() {
        if (history.size < 1) {
            return NONE;
        }
        history.restore(isle);
        return history.size;
    }

    public int run(int rule, int n) {
        if (!isRule(rule) || isle.people == 0 || n < 1 || n > MOST_HOURS || isle.hour + n > LAST_HOUR) {
            return NONE;
        }
        history.forget();
        for (int i = 0; i < n; i++) {
            runHour(rules[rule]);
        }
        return isle.tellings.size;
    }

    public int lean(int person) {
        return isle.has(person) ? isle.leanOf(person) : NO_SUM;
    }

    public int likeliest(int person, int what) {
        if (!isle.has(person)) {
            return NONE;
        }
        mind.addLeans(isle, person);
        switch (what) {
            case 0: return mind.marksAbove(isle);
            case 1: return mind.marksEven(isle);
            default: return NONE;
        }
    }

    public int flatters(int person, int what) {
        if (what == 0 && isle.has(person)) {
            return isle.flatteryOf(person);
        }
        if (what == 1 && isle.people > 0) {
            return isle.flatterer();
        }
        return NO_SUM;
    }

    public int ask(int person, int what) {
        if (!isle.has(person) || what < 0 || what > 1) {
            return NONE;
        }
        int best = NONE;
        int most = 0;
        mind.addUp(isle, inForce(), person);
        for (int other = 0; other < isle.people; other++) {
            if (other != person) {
                int marks = mind.marksTurnedBy(isle, inForce(), other, person);
                if (best == NONE || marks > most) {
                    best = other;
                    most = marks;
                }
            }
        }
        if (what == 1) {
            return most;
        }
        return best == NONE ? REFUSED : best;
    }

    public int chain(int telling, int what) {
        if (!isle.tellings.has(telling)) {
            return NONE;
        }
        switch (what) {
            case 0: return isle.tellings.at(telling, Isle.STEPS) + 1;
            case 1: return isle.tellings.at(isle.firstOf(telling), Isle.TELLER);
            case 2: return isle.firstOf(telling);
            default: return NONE;
        }
    }

    public int slip(int telling, int mark) {
        if (!isle.tellings.has(telling) || !isle.hasMark(mark)) {
            return NONE;
        }
        int slipped = isle.slippedAt(telling, mark);
        return slipped == NONE ? REFUSED : slipped;
    }

    public int wish(int person, int from, int to, int worth) {
        if (person == NONE) {
            isle.wishes.cutTo(0);
            return 0;
        }
        if (!isle.has(person) || from < 0 || to < from || to >= Rounds.MOST_HOURS) {
            return REFUSED;
        }
        if (worth < 1 || worth > MOST_WORTH || isle.wishes.isFull()) {
            return REFUSED;
        }
        isle.addWish(person, from, to, worth);
        return isle.wishes.size;
    }

    public int round(int n, int what) {
        if (isle.people == 0 || n < 1 || n > Rounds.MOST_HOURS || what < NONE || what >= n) {
            return REFUSED;
        }
        rounds.plan(isle, n);
        return what == NONE ? rounds.best : rounds.seats[what];
    }

    public int view(int seen, int there) {
        if (seen == NONE) {
            isle.views.cutTo(0);
            return 0;
        }
        if (seen == 0 || !isle.isFace(seen) || (there & ~seen) != 0 || isle.views.isFull()) {
            return REFUSED;
        }
        isle.addView(seen, there);
        return isle.views.size;
    }

    public int fits(int view) {
        return isle.views.has(view) ? isle.peopleFitting(view) : NONE;
    }

    public int views(int what) {
        if (isle.people == 0) {
            return NONE;
        }
        switch (what) {
            case 0: return faces.fewestFor(isle);
            case 1: return isle.sworn(isle.mostViewsOfOne());
            case 2: return isle.mostViewsOfOne();
            default: return NONE;
        }
    }

    public int seed(int x) {
        if (x < 0) {
            return NONE;
        }
        int before = isle.x;
        isle.x = x;
        return before;
    }

    public int drawn(int rule, int m, int n, int p, int what) {
        if (!isRuleOrNone(rule) || isle.people == 0 || what < 0 || what > 1) {
            return NONE;
        }
        if (m < 1 || m > MOST_TIMES || n < 1 || n > MOST_HOURS || p < 0 || p > 100) {
            return NONE;
        }
        int all = 0;
        spare.copyFrom(isle);
        for (int time = 0; time < m; time++) {
            spare.hour = isle.hour;
            spare.tellings.cutTo(isle.tellings.size);
            for (int i = 0; i < n; i++) {
                drawHour(spare, ruleAt(rule), p);
            }
            all += what == 0 ? peopleWhoKnow(spare) : marksOpen(spare);
        }
        return all;
    }

    public int count(int what) {
        switch (what) {
            case 0: return isle.marks;
            case 1: return isle.people;
            case 2: return ruleCount;
            case 3: return isle.inForce;
            case 4: return isle.hour;
            case 5: return isle.people == 0 ? NONE : isle.glass;
            case 6: return isle.tellings.size;
            case 7: return isle.wishes.size;
            case 8: return isle.views.size;
            case 9: return history.size;
            case 10: return isle.x;
            case 11: return tape.used;
            default: return NONE;
        }
    }

    public int image(int k) {
        if (k < 0 || k >= MOST_IMAGES) {
            return NONE;
        }
        images[k].copyFrom(isle);
        isMade[k] = true;
        history.forget();
        return isle.hour;
    }

    public int back(int k) {
        if (k < 0 || k >= MOST_IMAGES || !isMade[k]) {
            return NONE;
        }
        isle.copyFrom(images[k]);
        history.forget();
        return isle.hour;
    }

    private boolean isRule(int rule) {
        return rule >= 0 && rule < ruleCount && rule < MOST_RULES;
    }

    private boolean isRuleOrNone(int rule) {
        return rule == NONE || isRule(rule);
    }

    private Rule ruleAt(int rule) {
        return isRule(rule) ? rules[rule] : noRule;
    }

    private Rule inForce() {
        return ruleAt(isle.inForce);
    }

    private boolean canAct() {
        return isle.people > 0 && isle.hour < LAST_HOUR;
    }

    private boolean canTell() {
        return canAct() && !isle.tellings.isFull();
    }

    /** Who LOOKS in the HOUR has no boat to themselves: it is enough to know who did ahead of it. */
    private void runHour(Rule rule) {
        int lookers = isle.lookers();
        if (!isle.tellings.isFull()) {
            if ((lookers >> isle.glass & 1) == 0) {
                isle.addLook();
            } else {
                tellWhoHeedsMost(rule);
            }
        }
        int next = isle.nextToLook(lookers);
        if (!isle.isKept && next != NONE) {
            isle.glass = next;
        }
        isle.hour++;
    }

    private void tellWhoHeedsMost(Rule rule) {
        int teller = isle.people > 0 ? isle.hour % isle.people : 0;
        int hearer = isle.whoHeedsMost(teller);
        if (hearer != NONE) {
            int face = mind.told(isle, rule, teller, hearer, hearer, isle.faceOf(hearer));
            isle.addTelling(teller, hearer, hearer, face, NONE);
        }
    }

    private void drawHour(Isle on, Rule rule, int p) {
        int people = on.people > 0 ? on.people : 1;
        int teller = on.nextDraw() % people;
        int hearer = on.nextDraw() % people;
        if (!on.tellings.isFull()) {
            if (teller != hearer) {
                int face = mind.told(on, rule, teller, hearer, hearer, on.faceOf(hearer));
                on.addTelling(teller, hearer, hearer, face ^ drawSlips(on, p), NONE);
            } else if (on.glass == teller) {
                on.addLook();
            }
        }
        on.hour++;
    }

    private int drawSlips(Isle on, int p) {
        int slips = 0;
        for (int mark = 0; mark < on.marks; mark++) {
            if (on.nextDraw() % 100 < p) {
                slips |= 1 << mark;
            }
        }
        return slips;
    }

    private int peopleWhoKnow(Isle on) {
        int people = 0;
        for (int person = 0; person < on.people; person++) {
            if (mind.believed(on, inForce(), person) == on.faceOf(person)) {
                people++;
            }
        }
        return people;
    }

    private int marksOpen(Isle on) {
        int marks = 0;
        for (int person = 0; person < on.people; person++) {
            marks += Integer.bitCount(mind.open(on, inForce(), person));
        }
        return marks;
    }

    /** The bytes that were fed, and the same cut into words, numbers and signs for the readers. */
    private static final class Tape {
        private static final int ROOM = 400;
        private static final int BYTES_A_FEED = 20;
        private static final int MOST_DIGITS = 5;

        /** A sign's kind is its byte; these lie above all bytes. */
        private static final int LESS_OR_SAME = 256;
        private static final int MORE_OR_SAME = 257;
        private static final int NUMBER = 258;
        private static final int BAD = 259;
        private static final int END = 260;

        /** A word's kind is FIRST_WORD and its place in WORDS; the eight that are values come first. */
        private static final int FIRST_WORD = 300;
        private static final String WORDS =
            " teller hearer of hour face tie moved steps marks person boat glass tell weigh if or and not ";
        private static final int VALUE_WORDS = 8;
        private static final int TIE = 305;
        private static final int MARKS = 308;
        private static final int PERSON = 309;
        private static final int BOAT = 310;
        private static final int GLASS = 311;
        private static final int TELL = 312;
        private static final int WEIGH = 313;
        private static final int IF = 314;
        private static final int OR = 315;
        private static final int AND = 316;
        private static final int NOT = 317;

        private static final int NOT_HERE = 0;
        private static final int NOT_AS_TOLD = 1;
        private static final int TOO_DEEP = 2;
        private static final int TOO_MANY_PARTS = 3;
        private static final int TOO_MANY_CLAUSES = 4;

        /** The number of a NUMBER that has too many digits. */
        private static final int TOO_LONG = -1;

        private final int[] bytes;
        private final int[] kinds;
        private final int[] places;
        private final int[] numbers;
        private int used;
        private int tokens;
        private int cursor;
        private int fault;

        /** Of the token at the cursor; once there is a FAULT it is BAD, so that the readers go out. */
        private int kind;
        private int number;

        private Tape() {
            bytes = new int[ROOM];
            kinds = new int[ROOM + 1];
            places = new int[ROOM + 1];
            numbers = new int[ROOM + 1];
        }

        private void append(int four) {
            for (int shift = 24; shift >= 0; shift -= 8) {
                if (used >= 0 && used < ROOM) {
                    bytes[used] = (four >>> shift) & 255;
                    used++;
                }
            }
        }

        private void scan() {
            tokens = 0;
            cursor = 0;
            fault = 0;
            int at = 0;
            for (int i = 0; i < ROOM && at < used; i++) {
                at = scanOne(at);
            }
            addToken(END, used, 0);
            kind = kinds[0];
            number = numbers[0];
        }

        private int scanOne(int at) {
            int sign = byteAt(at);
            if (sign == ' ') {
                return at + 1;
            }
            if (isDigit(sign)) {
                return scanNumber(at);
            }
            if (isLetter(sign)) {
                return scanWord(at);
            }
            if ((sign == '<' || sign == '>') && byteAt(at + 1) == '=') {
                addToken(sign == '<' ? LESS_OR_SAME : MORE_OR_SAME, at, 0);
                return at + 2;
            }
            addToken(sign, at, 0);
            return at + 1;
        }

        private int scanNumber(int at) {
            int to = at;
            int value = 0;
            for (int i = 0; i < ROOM && isDigit(byteAt(to)); i++) {
                if (i < MOST_DIGITS) {
                    value = value * 10 + byteAt(to) - '0';
                }
                to++;
            }
            addToken(NUMBER, at, to - at > MOST_DIGITS ? TOO_LONG : value);
            return to;
        }

        private int scanWord(int at) {
            int to = at;
            for (int i = 0; i < ROOM && isLetter(byteAt(to)); i++) {
                to++;
            }
            addToken(wordOf(at, to), at, 0);
            return to;
        }

        private int wordOf(int at, int to) {
            int word = FIRST_WORD;
            int start = 1;
            for (int i = 1; i < WORDS.length(); i++) {
                if (WORDS.charAt(i) == ' ') {
                    if (i - start == to - at && isWordAt(start, i, at)) {
                        return word;
                    }
                    word++;
                    start = i + 1;
                }
            }
            return BAD;
        }

        private boolean isWordAt(int start, int stop, int at) {
            for (int i = start; i < stop && i < WORDS.length(); i++) {
                if (WORDS.charAt(i) != byteAt(at + i - start)) {
                    return false;
                }
            }
            return true;
        }

        /** Behind the last byte there is a 0, which is no digit, no letter and no sign. */
        private int byteAt(int at) {
            return at >= 0 && at < used && at < ROOM ? bytes[at] : 0;
        }

        private static boolean isDigit(int sign) {
            return sign >= '0' && sign <= '9';
        }

        private static boolean isLetter(int sign) {
            return sign >= 'a' && sign <= 'z';
        }

        private void addToken(int kind, int place, int number) {
            if (tokens >= 0 && tokens <= ROOM) {
                kinds[tokens] = kind;
                places[tokens] = place;
                numbers[tokens] = number;
                tokens++;
            }
        }

        private void step() {
            if (fault == 0 && cursor >= 0 && cursor + 1 < tokens && cursor < ROOM) {
                cursor++;
                kind = kinds[cursor];
                number = numbers[cursor];
            }
        }

        /** The first FAULT counts: the readers go along the text. */
        private void refuse(int why) {
            if (fault == 0 && cursor >= 0 && cursor <= ROOM) {
                fault = 1 + 8 * places[cursor] + why;
                kind = BAD;
            }
        }

        private int takeNumber(int least, int most) {
            if (kind != NUMBER) {
                refuse(NOT_HERE);
                return least;
            }
            int taken = number;
            if (taken < least || taken > most) {
                refuse(NOT_AS_TOLD);
                return least;
            }
            step();
            return taken;
        }
    }

    /** Reads the TAPE as an ISLAND; what it read is good if the TAPE has no fault then. */
    private static final class IsleReader {
        private static final int MOST_CLAUSES = 40;
        private static final int MOST_COINS = 99;
        private static final int MOST_TIE = 9;

        private IsleReader() {
        }

        private static void readAll(Tape tape, Isle isle) {
            isle.clear();
            tape.scan();
            for (int clause = 0; clause <= MOST_CLAUSES; clause++) {
                readClause(tape, isle, clause);
                if (tape.kind != ';') {
                    break;
                }
                tape.step();
            }
            if (tape.kind != Tape.END || isle.people == 0) {
                tape.refuse(Tape.NOT_HERE);
            }
        }

        private static void readClause(Tape tape, Isle isle, int clause) {
            int word = tape.kind;
            boolean isMarks = word == Tape.MARKS;
            if (!isMarks && word != Tape.PERSON && word != Tape.TIE && word != Tape.BOAT && word != Tape.GLASS) {
                tape.refuse(Tape.NOT_HERE);
                return;
            }
            boolean isNinth = word == Tape.PERSON && isle.people >= Isle.MOST_PEOPLE;
            if (clause >= MOST_CLAUSES || isMarks != (clause == 0) || isNinth) {
                tape.refuse(Tape.TOO_MANY_CLAUSES);
                return;
            }
            tape.step();
            switch (word) {
                case Tape.MARKS: isle.marks = tape.takeNumber(1, Isle.MOST_MARKS); break;
                case Tape.PERSON: readPerson(tape, isle); break;
                case Tape.TIE: readTie(tape, isle); break;
                case Tape.BOAT: readBoat(tape, isle); break;
                default: isle.glass = tape.takeNumber(0, isle.people - 1); break;
            }
        }

        private static void readPerson(Tape tape, Isle isle) {
            int face = tape.takeNumber(0, isle.lastFace());
            int coins = tape.takeNumber(0, MOST_COINS);
            if (tape.fault == 0 && isle.people < Isle.MOST_PEOPLE) {
                isle.faces[isle.people] = face;
                isle.coins[isle.people] = coins;
                isle.people++;
            }
        }

        private static void readTie(Tape tape, Isle isle) {
            int one = tape.takeNumber(0, isle.people - 1);
            int other = takeOther(tape, isle, one);
            int heed = tape.takeNumber(1, MOST_TIE);
            if (tape.fault == 0 && isle.hasTwo(one, other)) {
                isle.ties[one * Isle.MOST_PEOPLE + other] = heed;
            }
        }

        private static void readBoat(Tape tape, Isle isle) {
            int one = tape.takeNumber(0, isle.people - 1);
            int other = takeOther(tape, isle, one);
            if (tape.fault == 0 && isle.hasTwo(one, other)) {
                isle.boats[one] |= 1 << other;
                isle.boats[other] |= 1 << one;
            }
        }

        private static int takeOther(Tape tape, Isle isle, int one) {
            if (tape.kind == Tape.NUMBER && tape.number == one) {
                tape.refuse(Tape.NOT_AS_TOLD);
            }
            return tape.takeNumber(0, isle.people - 1);
        }
    }

    /** Reads the TAPE as a RULE; what it read is good if the TAPE has no fault then. */
    private static final class RuleReader {
        private static final int MOST_DEPTH = 10;
        private static final int MOST_PARTS = 60;

        private RuleReader() {
        }

        private static void readAll(Tape tape, Rule rule) {
            rule.clear();
            tape.scan();
            for (int clause = 0; clause <= Rule.MOST_CLAUSES; clause++) {
                readClause(tape, rule, clause);
                if (tape.kind != ';') {
                    break;
                }
                tape.step();
            }
            if (tape.kind != Tape.END) {
                tape.refuse(Tape.NOT_HERE);
            }
        }

        private static void readClause(Tape tape, Rule rule, int clause) {
            int word = tape.kind;
            if (word != Tape.TELL && word != Tape.WEIGH) {
                tape.refuse(Tape.NOT_HERE);
                return;
            }
            if (clause >= Rule.MOST_CLAUSES) {
                tape.refuse(Tape.TOO_MANY_CLAUSES);
                return;
            }
            tape.step();
            int start = rule.length;
            readSum(tape, rule);
            int middle = rule.length;
            if (tape.kind == Tape.IF) {
                tape.step();
                readTest(tape, rule, 0);
            }
            rule.addClause(word, start, middle);
        }

        /** An or waits until the row of ands behind it has been read. */
        private static void readTest(Tape tape, Rule rule, int depth) {
            boolean isWaiting = false;
            readFact(tape, rule, depth);
            for (int i = 0; i < Tape.ROOM; i++) {
                int joint = tape.kind;
                if (joint != Tape.AND && joint != Tape.OR) {
                    break;
                }
                tape.step();
                if (joint == Tape.OR && isWaiting) {
                    rule.addCode(-Tape.OR);
                }
                isWaiting |= joint == Tape.OR;
                readFact(tape, rule, depth);
                if (joint == Tape.AND) {
                    rule.addCode(-Tape.AND);
                }
            }
            if (isWaiting) {
                rule.addCode(-Tape.OR);
            }
        }

        private static void readFact(Tape tape, Rule rule, int depth) {
            if (tape.kind == Tape.NOT || tape.kind == '[') {
                readOpened(tape, rule, depth);
                return;
            }
            readSum(tape, rule);
            int sign = tape.kind;
            if (!isComparing(sign)) {
                tape.refuse(Tape.NOT_HERE);
                return;
            }
            if (rule.parts >= MOST_PARTS) {
                tape.refuse(Tape.TOO_MANY_PARTS);
                return;
            }
            rule.parts++;
            tape.step();
            readSum(tape, rule);
            rule.addCode(-sign);
        }

        private static void readOpened(Tape tape, Rule rule, int depth) {
            if (depth >= MOST_DEPTH) {
                tape.refuse(Tape.TOO_DEEP);
                return;
            }
            boolean isNot = tape.kind == Tape.NOT;
            tape.step();
            if (isNot) {
                readFact(tape, rule, depth + 1);
                rule.addCode(-Tape.NOT);
                return;
            }
            readTest(tape, rule, depth + 1);
            if (tape.kind != ']') {
                tape.refuse(Tape.NOT_HERE);
            }
            tape.step();
        }

        private static boolean isComparing(int sign) {
            return sign == '<' || sign == '=' || sign == '>'
                || sign == Tape.LESS_OR_SAME || sign == Tape.MORE_OR_SAME;
        }

        /** A + or - waits until the TERM behind it has been read. */
        private static void readSum(Tape tape, Rule rule) {
            int waiting = 0;
            readValue(tape, rule);
            for (int i = 0; i < Tape.ROOM; i++) {
                int sign = tape.kind;
                boolean isAdding = sign == '+' || sign == '-';
                if (!isAdding && sign != '*' && sign != '/' && sign != '%') {
                    break;
                }
                tape.step();
                if (isAdding && waiting != 0) {
                    rule.addCode(-waiting);
                }
                readValue(tape, rule);
                if (isAdding) {
                    waiting = sign;
                } else {
                    rule.addCode(-sign);
                }
            }
            if (waiting != 0) {
                rule.addCode(-waiting);
            }
        }

        private static void readValue(Tape tape, Rule rule) {
            int word = tape.kind - Tape.FIRST_WORD;
            boolean isNumber = tape.kind == Tape.NUMBER;
            if (!isNumber && (word < 0 || word >= Tape.VALUE_WORDS)) {
                tape.refuse(Tape.NOT_HERE);
                return;
            }
            if (isNumber && tape.number == Tape.TOO_LONG) {
                tape.refuse(Tape.NOT_AS_TOLD);
                return;
            }
            if (rule.parts >= MOST_PARTS) {
                tape.refuse(Tape.TOO_MANY_PARTS);
                return;
            }
            rule.parts++;
            rule.addCode(isNumber ? tape.number : -1 - word);
            tape.step();
        }
    }

    /**
     * A RULE as one row of code, each SUM and TEST with its deeds behind what they are done to:
     * 0 and above a number, -8 to -1 a word of the Scene, below that a deed (its token's kind, turned).
     */
    private static final class Rule {
        private static final int MOST_CLAUSES = 12;

        private final int[] code;
        private final int[] clauseKinds;
        private final int[] starts;
        private final int[] middles;
        private final int[] stops;
        private int length;
        private int clauses;
        private int parts;

        private Rule() {
            code = new int[Tape.ROOM];
            clauseKinds = new int[MOST_CLAUSES];
            starts = new int[MOST_CLAUSES];
            middles = new int[MOST_CLAUSES];
            stops = new int[MOST_CLAUSES];
        }

        private void clear() {
            length = 0;
            clauses = 0;
            parts = 0;
        }

        private void addCode(int deed) {
            if (length >= 0 && length < Tape.ROOM) {
                code[length] = deed;
                length++;
            }
        }

        private void addClause(int kind, int start, int middle) {
            if (clauses >= 0 && clauses < MOST_CLAUSES) {
                clauseKinds[clauses] = kind;
                starts[clauses] = start;
                middles[clauses] = middle;
                stops[clauses] = length;
                clauses++;
            }
        }

        /** The SUM of the first CLAUSE of a kind that speaks, held to 0 to most; without one, without. */
        private int chosen(int kind, Scene scene, int most, int without) {
            for (int i = 0; i < clauses && i < MOST_CLAUSES; i++) {
                if (clauseKinds[i] == kind && (middles[i] == stops[i] || reckoned(middles[i], stops[i], scene) != 0)) {
                    long sum = reckoned(starts[i], middles[i], scene);
                    return (int) Math.max(0L, Math.min(sum, most));
                }
            }
            return without;
        }

        private long reckoned(int from, int to, Scene scene) {
            long[] stack = scene.stack;
            int top = 0;
            for (int i = Math.max(from, 0); i < to && i < Tape.ROOM; i++) {
                int deed = code[i];
                if (deed >= -Tape.VALUE_WORDS && top < Scene.STACK) {
                    stack[top] = deed >= 0 ? deed : scene.words[-1 - deed];
                    top++;
                } else if (deed == -Tape.NOT && top >= 1) {
                    stack[top - 1] = 1 - stack[top - 1];
                } else if (top >= 2) {
                    top--;
                    stack[top - 1] = joined(-deed, stack[top - 1], stack[top]);
                }
            }
            return top >= 1 ? stack[top - 1] : 0;
        }

        private static long joined(int deed, long a, long b) {
            switch (deed) {
                case '+': return a + b;
                case '-': return a - b;
                case '*': return a * b;
                case '/': return b == 0 ? 0 : a / b;
                case '%': return b == 0 ? 0 : a % b;
                case '<': return a < b ? 1 : 0;
                case '=': return a == b ? 1 : 0;
                case '>': return a > b ? 1 : 0;
                case Tape.LESS_OR_SAME: return a <= b ? 1 : 0;
                case Tape.MORE_OR_SAME: return a >= b ? 1 : 0;
                case Tape.AND: return a & b;
                default: return a | b;
            }
        }
    }

    /** What the eight words of a RULE stand for, and where its sums are reckoned. */
    private static final class Scene {
        private static final int STACK = 64;
        private static final int TELLER = 0;
        private static final int HEARER = 1;
        private static final int OF = 2;
        private static final int HOUR = 3;
        private static final int FACE = 4;
        private static final int TIE = 5;
        private static final int MOVED = 6;
        private static final int STEPS = 7;

        private final long[] words;
        private final long[] stack;

        private Scene() {
            words = new long[Tape.VALUE_WORDS];
            stack = new long[STACK];
        }

        /** A new telling: of one just made nothing has moved, and it has no steps. */
        private void set(Isle isle, int teller, int hearer, int of, int face) {
            words[TELLER] = teller;
            words[HEARER] = hearer;
            words[OF] = of;
            words[HOUR] = isle.hour;
            words[FACE] = face;
            words[TIE] = isle.heed(hearer, teller);
            words[MOVED] = 0;
            words[STEPS] = 0;
        }

        private void setAs(Isle isle, int telling) {
            Rows tellings = isle.tellings;
            set(isle, tellings.at(telling, Isle.TELLER), tellings.at(telling, Isle.HEARER),
                tellings.at(telling, Isle.OF), tellings.at(telling, Isle.FACE));
            words[MOVED] = isle.hour - tellings.at(telling, Isle.HOUR);
            words[STEPS] = tellings.at(telling, Isle.STEPS);
        }
    }

    /** Tells and weighs by RULES; the sums of the MARKS are those of the one who was last thought of. */
    private static final class Mind {
        private static final int MOST_WEIGHT = 999;
        private static final int WEIGHT_OF_LOOK = 99;

        private final Scene scene;
        private final int[] sums;

        private Mind() {
            scene = new Scene();
            sums = new int[Isle.MOST_MARKS];
        }

        /** What one tells by a RULE of a FACE that they see, or believe their own to be. */
        private int told(Isle isle, Rule rule, int teller, int hearer, int of, int face) {
            scene.set(isle, teller, hearer, of, face);
            return rule.chosen(Tape.TELL, scene, isle.lastFace(), face);
        }

        private int weightOf(Isle isle, Rule inForce, int telling) {
            scene.setAs(isle, telling);
            return inForce.chosen(Tape.WEIGH, scene, MOST_WEIGHT, isle.isLook(telling) ? WEIGHT_OF_LOOK : 1);
        }

        private void addUp(Isle isle, Rule inForce, int person) {
            clearSums();
            for (int t = 0; t < isle.tellings.size; t++) {
                if (isle.tellings.at(t, Isle.OF) == person && isle.tellings.at(t, Isle.HEARER) == person) {
                    addFace(isle, isle.tellings.at(t, Isle.FACE), weightOf(isle, inForce, t));
                }
            }
        }

        private void addLeans(Isle isle, int person) {
            clearSums();
            for (int t = 0; t < isle.tellings.size; t++) {
                int teller = isle.tellings.at(t, Isle.TELLER);
                if (isle.tellings.at(t, Isle.OF) == person && teller != person) {
                    addFace(isle, isle.tellings.at(t, Isle.FACE), isle.leanOf(teller));
                }
            }
        }

        private void clearSums() {
            for (int mark = 0; mark < Isle.MOST_MARKS; mark++) {
                sums[mark] = 0;
            }
        }

        private void addFace(Isle isle, int face, int weight) {
            for (int mark = 0; mark < isle.marks && mark < Isle.MOST_MARKS; mark++) {
                sums[mark] += (face >> mark & 1) != 0 ? weight : -weight;
            }
        }

        private int believed(Isle isle, Rule inForce, int person) {
            addUp(isle, inForce, person);
            return marksAbove(isle);
        }

        private int open(Isle isle, Rule inForce, int person) {
            addUp(isle, inForce, person);
            return marksEven(isle);
        }

        private int marksAbove(Isle isle) {
            int marks = 0;
            for (int mark = 0; mark < isle.marks && mark < Isle.MOST_MARKS; mark++) {
                if (sums[mark] > 0) {
                    marks |= 1 << mark;
                }
            }
            return marks;
        }

        private int marksEven(Isle isle) {
            int marks = 0;
            for (int mark = 0; mark < isle.marks && mark < Isle.MOST_MARKS; mark++) {
                if (sums[mark] == 0) {
                    marks |= 1 << mark;
                }
            }
            return marks;
        }

        /** How many of the sums as they are a new TELLING by another one could bring to 0 or past it. */
        private int marksTurnedBy(Isle isle, Rule inForce, int other, int person) {
            scene.set(isle, other, person, person, 0);
            int weight = inForce.chosen(Tape.WEIGH, scene, MOST_WEIGHT, 1);
            int marks = 0;
            for (int mark = 0; mark < isle.marks && mark < Isle.MOST_MARKS; mark++) {
                if (weight > 0 && weight >= Math.abs(sums[mark])) {
                    marks++;
                }
            }
            return marks;
        }
    }

    /** All that an IMAGE holds: the ISLAND (none, while it has no people), its hour, its tellings. */
    private static final class Isle {
        private static final int MOST_PEOPLE = 8;
        private static final int MOST_MARKS = 6;
        private static final int MOST_TELLINGS = 40;
        private static final int MOST_WISHES = 10;
        private static final int MOST_VIEWS = 8;

        private static final int TELLER = 0;
        private static final int HEARER = 1;
        private static final int OF = 2;
        private static final int FACE = 3;
        private static final int HOUR = 4;
        private static final int FROM = 5;
        private static final int STEPS = 6;
        private static final int TELLING_WIDTH = 7;

        private static final int WISHER = 0;
        private static final int WISH_FROM = 1;
        private static final int WISH_TO = 2;
        private static final int WORTH = 3;
        private static final int WISH_WIDTH = 4;

        private static final int SEEN = 0;
        private static final int THERE = 1;
        private static final int VIEW_WIDTH = 2;

        private final int[] faces;
        private final int[] coins;
        private final int[] turns;
        private final int[] boats;
        private final int[] ties;
        private final Rows tellings;
        private final Rows wishes;
        private final Rows views;
        private int marks;
        private int people;
        private int glass;
        private boolean isKept;
        private int hour;
        private int inForce;
        private int x;

        private Isle() {
            faces = new int[MOST_PEOPLE];
            coins = new int[MOST_PEOPLE];
            turns = new int[MOST_PEOPLE];
            boats = new int[MOST_PEOPLE];
            ties = new int[MOST_PEOPLE * MOST_PEOPLE];
            tellings = new Rows(MOST_TELLINGS, TELLING_WIDTH);
            wishes = new Rows(MOST_WISHES, WISH_WIDTH);
            views = new Rows(MOST_VIEWS, VIEW_WIDTH);
            inForce = NONE;
        }

        /** No ISLAND; the RULE IN FORCE and x are not of it. */
        private void clear() {
            for (int i = 0; i < MOST_PEOPLE; i++) {
                faces[i] = 0;
                coins[i] = 0;
                turns[i] = 0;
                boats[i] = 0;
            }
            for (int i = 0; i < MOST_PEOPLE * MOST_PEOPLE; i++) {
                ties[i] = 0;
            }
            tellings.cutTo(0);
            wishes.cutTo(0);
            views.cutTo(0);
            marks = 0;
            people = 0;
            glass = 0;
            isKept = false;
            hour = 0;
        }

        private void copyFrom(Isle other) {
            System.arraycopy(other.faces, 0, faces, 0, MOST_PEOPLE);
            System.arraycopy(other.coins, 0, coins, 0, MOST_PEOPLE);
            System.arraycopy(other.turns, 0, turns, 0, MOST_PEOPLE);
            System.arraycopy(other.boats, 0, boats, 0, MOST_PEOPLE);
            System.arraycopy(other.ties, 0, ties, 0, MOST_PEOPLE * MOST_PEOPLE);
            tellings.copyFrom(other.tellings);
            wishes.copyFrom(other.wishes);
            views.copyFrom(other.views);
            marks = other.marks;
            people = other.people;
            glass = other.glass;
            isKept = other.isKept;
            hour = other.hour;
            inForce = other.inForce;
            x = other.x;
        }

        private boolean has(int person) {
            return person >= 0 && person < people && person < MOST_PEOPLE;
        }

        private boolean hasTwo(int one, int other) {
            return has(one) && has(other) && one != other;
        }

        private boolean hasMark(int mark) {
            return mark >= 0 && mark < marks && mark < MOST_MARKS;
        }

        private int lastFace() {
            return (1 << marks) - 1;
        }

        private boolean isFace(int face) {
            return face >= 0 && face <= lastFace();
        }

        private int faceOf(int person) {
            return has(person) ? faces[person] : 0;
        }

        private boolean hasBoat(int one, int other) {
            return hasTwo(one, other) && (boats[one] >> other & 1) != 0;
        }

        /** 0 for one and the same, whom no tie can be told of. */
        private int heed(int one, int other) {
            boolean areThere = one >= 0 && one < MOST_PEOPLE && other >= 0 && other < MOST_PEOPLE;
            return areThere ? ties[one * MOST_PEOPLE + other] : 0;
        }

        private int whoHeedsMost(int teller) {
            int best = NONE;
            int most = 0;
            for (int one = 0; one < people; one++) {
                if (heed(one, teller) > most) {
                    best = one;
                    most = heed(one, teller);
                }
            }
            return best;
        }

        private int nextDraw() {
            x = (int) ((x * 1103515245L + 12345L) & 2147483647L);
            return x / 65536;
        }

        private void addTelling(int teller, int hearer, int of, int face, int from) {
            int steps = from == NONE ? 0 : tellings.at(from, STEPS) + 1;
            tellings.addRow();
            tellings.put(TELLER, teller);
            tellings.put(HEARER, hearer);
            tellings.put(OF, of);
            tellings.put(FACE, face);
            tellings.put(HOUR, hour);
            tellings.put(FROM, from);
            tellings.put(STEPS, steps);
        }

        private void addLook() {
            addTelling(glass, glass, glass, faceOf(glass), NONE);
        }

        private void addWish(int person, int from, int to, int worth) {
            wishes.addRow();
            wishes.put(WISHER, person);
            wishes.put(WISH_FROM, from);
            wishes.put(WISH_TO, to);
            wishes.put(WORTH, worth);
        }

        private void addView(int seen, int there) {
            views.addRow();
            views.put(SEEN, seen);
            views.put(THERE, there);
        }

        /** Only in the GLASS one tells oneself. */
        private boolean isLook(int telling) {
            return tellings.at(telling, TELLER) == tellings.at(telling, HEARER);
        }

        private int looksOf(int person) {
            int looks = 0;
            for (int t = 0; t < tellings.size; t++) {
                if (isLook(t) && tellings.at(t, TELLER) == person) {
                    looks++;
                }
            }
            return looks;
        }

        /** As bits all who ever LOOKED. */
        private int lookers() {
            int bits = 0;
            for (int t = 0; t < tellings.size; t++) {
                if (isLook(t)) {
                    bits |= 1 << tellings.at(t, TELLER);
                }
            }
            return bits;
        }

        private int nextToLook(int lookers) {
            for (int person = 0; person < people; person++) {
                if (hasBoat(glass, person) && (lookers >> person & 1) == 0) {
                    return person;
                }
            }
            return NONE;
        }

        private int leanOf(int person) {
            int lean = 0;
            for (int t = 0; t < tellings.size; t++) {
                int of = tellings.at(t, OF);
                if (tellings.at(t, TELLER) == person && of != person) {
                    lean += marks - 2 * Integer.bitCount(tellings.at(t, FACE) ^ faceOf(of));
                }
            }
            return lean;
        }

        private int flatteryOf(int person) {
            int flattery = 0;
            for (int t = 0; t < tellings.size; t++) {
                int of = tellings.at(t, OF);
                if (tellings.at(t, TELLER) == person && tellings.at(t, HEARER) == of) {
                    int told = tellings.at(t, FACE);
                    int face = faceOf(of);
                    flattery += Integer.bitCount(told & ~face) - Integer.bitCount(face & ~told);
                }
            }
            return flattery;
        }

        private int flatterer() {
            int best = NONE;
            int most = 0;
            for (int person = 0; person < people; person++) {
                int flattery = flatteryOf(person);
                if (flattery > most) {
                    best = person;
                    most = flattery;
                }
            }
            return best;
        }

        private int firstOf(int telling) {
            int first = telling;
            for (int i = 0; i < MOST_TELLINGS && tellings.at(first, FROM) != NONE; i++) {
                first = tellings.at(first, FROM);
            }
            return first;
        }

        /** Goes from the last to the first: the slip found last is the first along the chain. */
        private int slippedAt(int telling, int mark) {
            int slipped = NONE;
            int at = telling;
            for (int i = 0; i < MOST_TELLINGS && tellings.at(at, FROM) != NONE; i++) {
                int ahead = tellings.at(at, FROM);
                if (((tellings.at(at, FACE) ^ tellings.at(ahead, FACE)) >> mark & 1) != 0) {
                    slipped = at;
                }
                at = ahead;
            }
            return slipped;
        }

        private boolean canBeOf(int view, int face) {
            return (face & views.at(view, SEEN)) == views.at(view, THERE);
        }

        private int peopleFitting(int view) {
            int bits = 0;
            for (int person = 0; person < people; person++) {
                if (canBeOf(view, faceOf(person))) {
                    bits |= 1 << person;
                }
            }
            return bits;
        }

        /** As bits the VIEWS that can be of a FACE. */
        private int viewsOf(int face) {
            int bits = 0;
            for (int view = 0; view < views.size; view++) {
                if (canBeOf(view, face)) {
                    bits |= 1 << view;
                }
            }
            return bits;
        }

        private int mostViewsOfOne() {
            int most = 0;
            for (int person = 0; person < people; person++) {
                most = Math.max(most, Integer.bitCount(viewsOf(faceOf(person))));
            }
            return most;
        }

        private int sworn(int most) {
            int bits = 0;
            for (int person = 0; person < people; person++) {
                if (Integer.bitCount(viewsOf(faceOf(person))) == most) {
                    bits |= 1 << person;
                }
            }
            return bits;
        }
    }

    /** A table of numbers that grows by rows up to a bound. */
    private static final class Rows {
        private final int[] cells;
        private final int width;
        private final int room;
        private int size;

        private Rows(int room, int width) {
            this.room = room;
            this.width = width;
            cells = new int[room * width];
        }

        private boolean has(int row) {
            return row >= 0 && row < size && row < room;
        }

        private boolean isFull() {
            return size >= room;
        }

        private int at(int row, int column) {
            return has(row) && column >= 0 && column < width ? cells[row * width + column] : NONE;
        }

        private void addRow() {
            if (size < room) {
                size++;
            }
        }

        /** Into the last row. */
        private void put(int column, int number) {
            if (size > 0 && column >= 0 && column < width) {
                cells[(size - 1) * width + column] = number;
            }
        }

        private void cutTo(int rows) {
            if (rows >= 0 && rows < size) {
                size = rows;
            }
        }

        private void copyFrom(Rows other) {
            int cellsUsed = Math.min(other.size * other.width, room * width);
            System.arraycopy(other.cells, 0, cells, 0, cellsUsed);
            size = Math.min(other.size, room);
        }
    }

    /** How it was ahead of each of the last ACTS: a ring, in which the newest lies upon the oldest. */
    private static final class History {
        private static final int MOST_ACTS = 20;
        private static final int HOUR = 0;
        private static final int GLASS = 1;
        private static final int KEPT = 2;
        private static final int TELLINGS = 3;
        private static final int COINS = 4;
        private static final int TURNS = 12;
        private static final int WIDTH = 20;

        private final int[] cells;
        private int newest;
        private int size;

        private History() {
            cells = new int[MOST_ACTS * WIDTH];
        }

        private void forget() {
            size = 0;
        }

        private int startOfNewest() {
            return Math.floorMod(newest, MOST_ACTS) * WIDTH;
        }

        private void remember(Isle isle) {
            newest = Math.floorMod(newest + 1, MOST_ACTS);
            size = Math.min(size + 1, MOST_ACTS);
            int start = startOfNewest();
            cells[start + HOUR] = isle.hour;
            cells[start + GLASS] = isle.glass;
            cells[start + KEPT] = isle.isKept ? 1 : 0;
            cells[start + TELLINGS] = isle.tellings.size;
            System.arraycopy(isle.coins, 0, cells, start + COINS, Isle.MOST_PEOPLE);
            System.arraycopy(isle.turns, 0, cells, start + TURNS, Isle.MOST_PEOPLE);
        }

        /** No ACT takes a TELLING away or changes one, so that the later ones need only be cut off. */
        private void restore(Isle isle) {
            int start = startOfNewest();
            isle.hour = cells[start + HOUR];
            isle.glass = cells[start + GLASS];
            isle.isKept = cells[start + KEPT] != 0;
            isle.tellings.cutTo(cells[start + TELLINGS]);
            System.arraycopy(cells, start + COINS, isle.coins, 0, Isle.MOST_PEOPLE);
            System.arraycopy(cells, start + TURNS, isle.turns, 0, Isle.MOST_PEOPLE);
            newest = Math.floorMod(newest - 1, MOST_ACTS);
            size = Math.max(size - 1, 0);
        }
    }

    /**
     * The best ROUND. For each hour and person there is the set of all sets of WISHES that can be served
     * from there on: one bit for each of the 1024 sets at most, so that a whole step takes a few words.
     */
    private static final class Rounds {
        private static final int MOST_HOURS = 16;
        private static final int WORDS = 16;
        private static final int WORD_BITS = 64;
        private static final int WISHES_IN_WORD = 6;
        private static final int SETS = 1024;

        /** Of each of the first six WISHES the sets within a word that do not hold it. */
        private static final long[] WITHOUT = {
            0x5555555555555555L, 0x3333333333333333L, 0x0f0f0f0f0f0f0f0fL,
            0x00ff00ff00ff00ffL, 0x0000ffff0000ffffL, 0x00000000ffffffffL
        };

        private final long[] reach;
        private final int[] worths;
        private final int[] seats;
        private int words;
        private int best;

        private Rounds() {
            reach = new long[MOST_HOURS * Isle.MOST_PEOPLE * WORDS];
            worths = new int[SETS];
            seats = new int[MOST_HOURS];
        }

        private void plan(Isle isle, int n) {
            int hours = Math.max(1, Math.min(n, MOST_HOURS));
            addWorths(isle);
            for (int hour = hours - 1; hour >= 0; hour--) {
                for (int person = 0; person < isle.people; person++) {
                    gather(isle, hour, person, hour == hours - 1);
                    serve(start(hour, person), served(isle, hour, person));
                }
            }
            follow(isle, hours);
        }

        /** Of all sets of the WISHES there are; no more words are used than these fill. */
        private void addWorths(Isle isle) {
            worths[0] = 0;
            words = 1;
            for (int wish = 0; wish < isle.wishes.size && wish < Isle.MOST_WISHES; wish++) {
                int sets = 1 << wish;
                for (int set = 0; set < sets; set++) {
                    worths[sets + set] = worths[set] + isle.wishes.at(wish, Isle.WORTH);
                }
                words = Math.max(1, Math.min(2 * sets / WORD_BITS, WORDS));
            }
        }

        private static int start(int hour, int person) {
            int row = hour * Isle.MOST_PEOPLE + person;
            return Math.max(0, Math.min(row, MOST_HOURS * Isle.MOST_PEOPLE - 1)) * WORDS;
        }

        private static int served(Isle isle, int hour, int person) {
            int bits = 0;
            for (int wish = 0; wish < isle.wishes.size; wish++) {
                if (isle.wishes.at(wish, Isle.WISHER) == person
                        && isle.wishes.at(wish, Isle.WISH_FROM) <= hour && isle.wishes.at(wish, Isle.WISH_TO) >= hour) {
                    bits |= 1 << wish;
                }
            }
            return bits;
        }

        private static boolean canGo(Isle isle, int from, int to) {
            return from == to || isle.hasBoat(from, to);
        }

        /** What can be served in the hours behind this one; in the last one nothing more. */
        private void gather(Isle isle, int hour, int person, boolean isLast) {
            int start = start(hour, person);
            for (int word = 0; word < words; word++) {
                reach[start + word] = 0;
            }
            if (isLast) {
                reach[start] = 1;
                return;
            }
            for (int next = 0; next < isle.people; next++) {
                if (canGo(isle, person, next)) {
                    int other = start(hour + 1, next);
                    for (int word = 0; word < words; word++) {
                        reach[start + word] |= reach[other + word];
                    }
                }
            }
        }

        /** Puts WISHES into each of the sets. */
        private void serve(int start, int wishes) {
            for (int wish = 0; wish < Isle.MOST_WISHES; wish++) {
                if ((wishes >> wish & 1) != 0) {
                    if (wish < WISHES_IN_WORD) {
                        serveWithinWords(start, wish);
                    } else {
                        serveByWords(start, 1 << (wish - WISHES_IN_WORD));
                    }
                }
            }
        }

        private void serveWithinWords(int start, int wish) {
            for (int word = 0; word < words; word++) {
                long sets = reach[start + word];
                reach[start + word] = (sets & ~WITHOUT[wish]) | (sets & WITHOUT[wish]) << (1 << wish);
            }
        }

        private void serveByWords(int start, int stride) {
            for (int word = 0; word + stride < words; word++) {
                if ((word & stride) == 0) {
                    reach[start + word + stride] |= reach[start + word];
                    reach[start + word] = 0;
                }
            }
        }

        /** The most that can be served from there on, with what was served ahead of it. */
        private int mostWith(int start, int ahead) {
            int most = 0;
            for (int word = 0; word < words; word++) {
                long sets = reach[start + word];
                for (int bit = 0; bit < WORD_BITS && sets != 0; bit++) {
                    if ((sets & 1) != 0) {
                        most = Math.max(most, worths[(word * WORD_BITS + bit | ahead) & (SETS - 1)]);
                    }
                    sets >>>= 1;
                }
            }
            return most;
        }

        /** From hour to hour to the least person from whom the best can still be had. */
        private void follow(Isle isle, int hours) {
            int at = isle.glass;
            int ahead = served(isle, 0, at);
            best = mostWith(start(0, at), 0);
            seats[0] = at;
            for (int hour = 1; hour < hours && hour < MOST_HOURS; hour++) {
                for (int next = 0; next < isle.people; next++) {
                    if (canGo(isle, at, next) && mostWith(start(hour, next), ahead) == best) {
                        at = next;
                        break;
                    }
                }
                ahead |= served(isle, hour, at);
                seats[hour] = at;
            }
        }
    }

    /** The fewest FACES by which all VIEWS can be. */
    private static final class Faces {
        private static final int MOST_FACES = 64;
        private static final int VIEW_SETS = 256;

        private final int[] covers;
        private final int[] fewest;

        private Faces() {
            covers = new int[MOST_FACES];
            fewest = new int[VIEW_SETS];
        }

        private int fewestFor(Isle isle) {
            int facesThere = Math.min(isle.lastFace() + 1, MOST_FACES);
            for (int face = 0; face < facesThere; face++) {
                covers[face] = isle.viewsOf(face);
            }
            int all = (1 << isle.views.size) - 1;
            fewest[0] = 0;
            for (int set = 1; set <= all && set < VIEW_SETS; set++) {
                fewest[set] = fewestOf(set, facesThere);
            }
            return fewest[all & (VIEW_SETS - 1)];
        }

        /** One FACE must be of the least VIEW of the set; the rest is a lesser set. */
        private int fewestOf(int set, int facesThere) {
            int least = set & -set;
            int best = Isle.MOST_VIEWS;
            for (int face = 0; face < facesThere && face < MOST_FACES; face++) {
                if ((covers[face] & least) != 0) {
                    best = Math.min(best, fewest[set & ~covers[face] & (VIEW_SETS - 1)] + 1);
                }
            }
            return best;
        }
    }
}
