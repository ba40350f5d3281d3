/** The edges of the ISLAND's language, of its FAULTS, and of promise 4. */
public final class EdgeIslandTest {
    private static final String ONE = "marks 1;person 0 0";
    private static final String TWO = "marks 1;person 0 0;person 1 0";
    private static final String[] OTHER_CLAUSES = {"person 0 0", "tie 0 1 1", "boat 0 1", "glass 0"};

    private EdgeIslandTest() {
    }

    public static void main(String[] args) {
        fourHundredBytes();
        clausesJoined();
        fortyClauses();
        fortyFirstClause();
        marksOneToSix();
        marksOnce();
        marksFirst();
        faceAsBits();
        coins();
        tieOfPeopleTold();
        tieToAnother();
        tieOneToNine();
        tieLastTold();
        boatBetweenTwoTold();
        boatToAnother();
        boatBothWays();
        glassOfOneTold();
        glassLastTold();
        glassWithout();
        eightPeople();
        ninthPerson();
        atLeastOne();
        numbersOfFiveDigits();
        numbersOfSix();
        wordsGoOn();
        blanksBetween();
        blanksWithin();
        bytesThatCantStand();
        fourHundredTimesAByte();
        theEnd();
        theFirstFault();
        theLeastOfOnePlace();
        islandInPlaceOfAnother();
        islandAfterOthers();
        islandOfAnEmptyTape();
        faultLeavesAll();
        Check.finish();
    }

    private static void good(String text, int people) {
        Check.due("island \"" + text + "\"", Check.island(new OneMirror(), text), people);
    }

    private static void bad(String text, int place, int kind) {
        Check.islandFault(text, place, kind);
    }

    /** The fault is at the first byte of what was put behind. */
    private static void badBehind(String text, String behind, int kind) {
        bad(text + behind, text.length(), kind);
    }

    private static void fourHundredBytes() {
        Check.sentence("I: a text of at most 400 bytes");
        good(ONE + " ".repeat(382), 1);
        good(" ".repeat(382) + ONE, 1);
        bad(ONE + " ".repeat(381) + "x", 399, 0);
    }

    private static void clausesJoined() {
        Check.sentence("I: CLAUSE { ; CLAUSE }");
        badBehind(ONE, "person 0 0", 0);
        badBehind(ONE + " ", "person 0 0", 0);
        badBehind(ONE + ";", "", 0);
        badBehind(ONE + ";", ";glass 0", 0);
        badBehind("", ";" + ONE, 0);
        badBehind(ONE, ",glass 0", 0);
    }

    private static void fortyClauses() {
        Check.sentence("I: 40 at most");
        good(ONE + ";glass 0".repeat(38), 1);
        good(TWO + ";glass 1".repeat(36) + ";boat 1 0", 2);
    }

    private static void fortyFirstClause() {
        Check.sentence("I, FAULTS: 4 one CLAUSE too many (at its first byte)");
        String forty = ONE + ";glass 0".repeat(38);
        badBehind(forty + ";", "glass 0", 4);
        badBehind(forty + ";", "boat 0 1", 4);
        badBehind(forty + ";", "tie", 4);
        badBehind(forty + ";  ", "person 0 0", 4);
        badBehind(forty + ";", "marks 1", 4);
        badBehind(forty + ";", "glass 0;glass 0;x", 4);
    }

    private static void marksOneToSix() {
        Check.sentence("I: marks NUMBER (1 to 6)");
        for (int marks = 1; marks <= 6; marks++) {
            OneMirror m = Check.withIsland("marks " + marks + ";person 0 0");
            Check.due("MARKS", m.count(0), marks);
        }
        badBehind("marks ", "0;person 0 0", 1);
        badBehind("marks ", "7;person 0 0", 1);
        badBehind("marks ", "99999;person 0 0", 1);
    }

    private static void marksOnce() {
        Check.sentence("I, FAULTS: 4 a second marks (at its first byte)");
        badBehind("marks 1;", "marks 1;person 0 0", 4);
        badBehind(ONE + ";", "marks 1", 4);
        badBehind(ONE + "; ", "marks", 4);
    }

    private static void marksFirst() {
        Check.sentence("I, FAULTS: 4 another CLAUSE ahead of it (at its first byte)");
        for (String clause : OTHER_CLAUSES) {
            badBehind("", clause + ";marks 1", 4);
            badBehind("  ", clause, 4);
        }
    }

    private static void faceAsBits() {
        Check.sentence("I: person NUMBER NUMBER (FACE: MARKS as bits)");
        for (int marks = 1; marks <= 6; marks++) {
            int faces = 1 << marks;
            String start = "marks " + marks + ";person ";
            OneMirror m = Check.withIsland(start + "0 0;person " + (faces - 1) + " 0");
            Check.due("FACE 0", m.person(0, 0), 0);
            Check.due("all MARKS", m.person(1, 0), faces - 1);
            badBehind(start, faces + " 0", 1);
            badBehind(start, "99999 0", 1);
        }
    }

    private static void coins() {
        Check.sentence("I: COINS 0 to 99");
        OneMirror m = Check.withIsland("marks 1;person 0 0;person 0 99");
        Check.due("COINS", m.person(0, 1), 0);
        Check.due("COINS", m.person(1, 1), 99);
        badBehind("marks 1;person 0 ", "100", 1);
        badBehind("marks 1;person 0 ", "99999", 1);
    }

    private static void tieOfPeopleTold() {
        Check.sentence("I: a PERSON that was told heeds another one");
        badBehind("marks 1;tie ", "0 1 1;person 0 0;person 0 0", 1);
        badBehind(ONE + ";tie ", "1 0 1;person 0 0", 1);
        badBehind(ONE + ";tie 0 ", "1 1;person 0 0", 1);
        badBehind(TWO + ";tie ", "2 0 1", 1);
        badBehind(TWO + ";tie 0 ", "2 1", 1);
        good(TWO + ";tie 0 1 1", 2);
    }

    private static void tieToAnother() {
        Check.sentence("I, FAULTS: 1 a NUMBER not as told (a second PERSON, if it is the first)");
        badBehind(ONE + ";tie 0 ", "0 1", 1);
        badBehind(TWO + ";tie 1 ", "1 1", 1);
        badBehind(TWO + ";tie 1 ", "00001 1", 1);
    }

    private static void tieOneToNine() {
        Check.sentence("I: 1 to 9");
        OneMirror m = Check.withIsland(TWO + ";tie 0 1 1;tie 1 0 9");
        Check.due("tie", m.tie(0, 1), 1);
        Check.due("tie", m.tie(1, 0), 9);
        badBehind(TWO + ";tie 0 1 ", "0", 1);
        badBehind(TWO + ";tie 0 1 ", "10", 1);
    }

    private static void tieLastTold() {
        Check.sentence("I: of the same two the last told");
        OneMirror m = Check.withIsland(TWO + ";tie 0 1 9;tie 1 0 2;tie 0 1 3");
        Check.due("0 heeds 1", m.tie(0, 1), 3);
        Check.due("1 heeds 0", m.tie(1, 0), 2);
    }

    private static void boatBetweenTwoTold() {
        Check.sentence("I: boat NUMBER NUMBER (between two PEOPLE that were told)");
        badBehind("marks 1;boat ", "0 1;person 0 0;person 0 0", 1);
        badBehind(ONE + ";boat ", "1 0;person 0 0", 1);
        badBehind(ONE + ";boat 0 ", "1;person 0 0", 1);
        badBehind(TWO + ";boat ", "2 0", 1);
        badBehind(TWO + ";boat 1 ", "2", 1);
    }

    private static void boatToAnother() {
        Check.sentence("I, FAULTS: 1 a NUMBER not as told (a second PERSON, if it is the first)");
        badBehind(ONE + ";boat 0 ", "0", 1);
        badBehind(TWO + ";boat 1 ", "1", 1);
    }

    private static void boatBothWays() {
        Check.sentence("I: boat NUMBER NUMBER (between two PEOPLE)");
        OneMirror m = Check.withIsland("marks 1" + ";person 0 0".repeat(8) + ";boat 7 0;boat 7 0");
        Check.due("from 0", m.person(0, 7), 128);
        Check.due("from 7", m.person(7, 7), 1);
        Check.due("from 3", m.person(3, 7), 0);
    }

    private static void glassOfOneTold() {
        Check.sentence("I: glass NUMBER (a PERSON that was told, who has it)");
        badBehind("marks 1;glass ", "0;person 0 0", 1);
        badBehind(ONE + ";glass ", "1;person 0 0", 1);
        badBehind(TWO + ";glass ", "2", 1);
        Check.due("the last one", Check.withIsland(TWO + ";glass 1").count(5), 1);
    }

    private static void glassLastTold() {
        Check.sentence("I: of more the last told");
        Check.due("GLASS", Check.withIsland(TWO + ";glass 0;glass 1").count(5), 1);
        Check.due("GLASS", Check.withIsland(TWO + ";glass 1;glass 0").count(5), 0);
    }

    private static void glassWithout() {
        Check.sentence("I: 0 without");
        Check.due("GLASS", Check.withIsland(TWO).count(5), 0);
    }

    private static void eightPeople() {
        Check.sentence("I: PEOPLE 0 to 7, in the order told");
        StringBuilder text = new StringBuilder("marks 3");
        for (int p = 0; p < 8; p++) {
            text.append(";person ").append(7 - p).append(' ').append(p);
        }
        OneMirror m = Check.withIsland(text + ";tie 7 0 5;glass 7");
        Check.due("PEOPLE", m.count(1), 8);
        for (int p = 0; p < 8; p++) {
            Check.due("FACE of " + p, m.person(p, 0), 7 - p);
            Check.due("COINS of " + p, m.person(p, 1), p);
        }
        Check.due("no 8", m.person(8, 0), -1);
        Check.due("tie", m.tie(7, 0), 5);
        Check.due("GLASS", m.count(5), 7);
        badBehind(text + ";tie ", "8 0 5", 1);
    }

    private static void ninthPerson() {
        Check.sentence("I, FAULTS: 4 a ninth PERSON (at its first byte)");
        String eight = "marks 1" + ";person 0 0".repeat(8);
        badBehind(eight + ";", "person 0 0", 4);
        badBehind(eight + "; ", "person", 4);
        badBehind(eight + ";glass 7;", "person 5 500", 4);
        good(eight + ";boat 0 7", 8);
    }

    private static void atLeastOne() {
        Check.sentence("I, FAULTS: 0 the end (behind the last byte; also without a PERSON)");
        badBehind("marks 1", "", 0);
        badBehind("marks 6   ", "", 0);
        good(ONE, 1);
    }

    private static void numbersOfFiveDigits() {
        Check.sentence("I: NUMBER (1 to 5 digits, as far as digits go on)");
        good("marks 00001;person 00000 00099", 1);
        good("marks1;person 0 0;person1 1;tie0 1 1;boat0 1;glass1", 2);
        badBehind("marks ", "99999", 1);
        badBehind("marks 1;person ", "010", 1);
    }

    private static void numbersOfSix() {
        Check.sentence("I, FAULTS: 1 a NUMBER of more digits");
        badBehind("marks ", "000001;person 0 0", 1);
        badBehind("marks 1;person ", "000000 0", 1);
        badBehind("marks 1;person 0 ", "000000", 1);
        badBehind(TWO + ";tie ", "000000 1 1", 1);
        badBehind(TWO + ";tie 0 ", "000001 1", 1);
        badBehind(TWO + ";tie 0 1 ", "000001", 1);
        badBehind(TWO + ";boat ", "000000 1", 1);
        badBehind(TWO + ";boat 0 ", "000001", 1);
        badBehind(TWO + ";glass ", "000001", 1);
        badBehind("marks ", "4294967297;person 0 0", 1);
        badBehind("marks ", "1".repeat(394), 1);
    }

    private static void wordsGoOn() {
        Check.sentence("I: WORDS (small letters, as far as these go on)");
        badBehind("", "markss 1;person 0 0", 0);
        badBehind("", "mark 1;person 0 0", 0);
        badBehind("", "Marks 1;person 0 0", 0);
        badBehind("", "mARKS 1;person 0 0", 0);
        badBehind("marks 1;", "persons 0 0", 0);
        badBehind("marks 1;", "perso 0 0", 0);
        badBehind(TWO + ";", "ties 0 1 1", 0);
        badBehind(TWO + ";", "boa 0 1", 0);
        badBehind(TWO + ";", "glasss 1", 0);
        badBehind("marks 1;", "tell 1", 0);
        badBehind("marks 1;", "face 1", 0);
        for (char letter = 'a'; letter <= 'z'; letter++) {
            badBehind("", "marks" + letter + "1", 0);
            badBehind(ONE + ";", "glass" + letter + " 0", 0);
            badBehind(ONE, String.valueOf(letter), 0);
        }
    }

    private static void blanksBetween() {
        Check.sentence("I: Blanks (32) stand between as one likes");
        good("  marks   1  ;  person  0   0  ;  glass  0  ", 1);
        good("marks1;person0 0", 1);
        bad("marks\t1;person 0 0", 5, 0);
        bad("marks 1;\nperson 0 0", 8, 0);
        bad("marks 1;person 0\u00a00", 16, 0);
    }

    private static void blanksWithin() {
        Check.sentence("I: Blanks stand between");
        bad("ma rks 1;person 0 0", 0, 0);
        bad("marks 1;per son 0 0", 8, 0);
        bad("marks 1;person 0 1 2", 19, 0);
    }

    private static void bytesThatCantStand() {
        Check.sentence("I, FAULTS: 0 a byte that can't stand there");
        for (int sign = 0; sign < 256; sign++) {
            char c = (char) sign;
            boolean isLetterOrDigit = c >= 'a' && c <= 'z' || c >= '0' && c <= '9';
            if (c != ' ') {
                badBehind("", c + " ", 0);
            }
            if (!isLetterOrDigit && c != ' ' && c != ';') {
                badBehind(ONE, c + "glass 0", 0);
                badBehind("marks ", c + "1", 0);
                badBehind("marks 1;person", c + "0 0", 0);
            }
        }
    }

    private static void fourHundredTimesAByte() {
        Check.sentence("I, FAULTS: 0 a byte or WORD that can't stand there, or the end");
        for (int sign = 0; sign < 256; sign++) {
            Check.islandFault(String.valueOf((char) sign).repeat(400), sign == ' ' ? 400 : 0, 0);
        }
    }

    private static void theEnd() {
        Check.sentence("I, FAULTS: 0 the end (behind the last byte)");
        for (String text : new String[] {"", "   ", "marks", "marks ", "marks 1;", "marks 1;person", "marks 1;person 0",
            "marks 1;person 0  ", ONE + ";", TWO + ";tie", TWO + ";tie 0", TWO + ";tie 0 1", TWO + ";boat", TWO + ";boat 0",
            TWO + ";glass", TWO + ";glass   "}) {
            badBehind(text, "", 0);
        }
        badBehind("marks 1;person 0" + " ".repeat(384), "", 0);
    }

    private static void theFirstFault() {
        Check.sentence("I, FAULTS: the first along the text, 1 + 8 * its place and its kind");
        Check.due("kind 0 at 0", Check.island(new OneMirror(), "x"), -3);
        Check.due("kind 1 at 6", Check.island(new OneMirror(), "marks 7;person 9 9;marks 1"), -2 - (1 + 48 + 1));
        Check.due("kind 4 at 0", Check.island(new OneMirror(), "glass x"), -7);
        badBehind("marks 1;person ", "2 100", 1);
        badBehind(TWO + ";tie ", "2 2 0", 1);
        badBehind(TWO + ";tie 0 ", "0 0", 1);
        badBehind(ONE + ";glass ", "x;marks 1;" + "\0".repeat(300), 0);
    }

    private static void theLeastOfOnePlace() {
        Check.sentence("I, FAULTS: Of one place the least");
        String forty = ONE + ";glass 0".repeat(38);
        badBehind(forty + ";", "glas 0", 0);
        badBehind(forty + ";", "1", 0);
        badBehind(forty + ";", "", 0);
        badBehind("", "tell 1", 0);
        badBehind(ONE + " ", "000000", 0);
    }

    private static void islandInPlaceOfAnother() {
        Check.sentence("P4: in place of the one there was (HOUR 0, no TELLINGS, WISHES, VIEWS, no TURNS, nobody KEEPS, "
            + "nothing to be UNDONE; the RULE IN FORCE and x stay)");
        String text = "marks 3;person 1 1;person 2 2;person 4 4;person 7 7;boat 2 3;glass 3";
        Edge.alike("island",
            () -> Edge.with(Edge::rich, m -> Check.island(m, text)),
            () -> Edge.with(Edge::early, m -> Check.island(m, text) + m.seed(4711)));
        OneMirror m = Edge.rich();
        Check.due("island", Check.island(m, text), 4);
        int[] due = {3, 4, 2, 0, 0, 3, 0, 0, 0, 0, 4711, 0};
        for (int what = 0; what < 12; what++) {
            Check.due("count " + what, m.count(what), due[what]);
        }
        for (int p = 0; p < 4; p++) {
            Check.due("TURNS of " + p, m.person(p, 2), 0);
            Check.due("KEEPS " + p, m.person(p, 6), 0);
            Check.due("LOOKED " + p, m.person(p, 3), 0);
            Check.due("tie to " + p, m.tie(1, (p + 2) % 4), p == 3 ? -1 : 0);
        }
        Check.due("undo", m.undo(), -1);
    }

    private static void islandAfterOthers() {
        Check.sentence("P4: in place of the one there was");
        String text = "marks 3;person 1 1;person 2 2;person 4 4;person 7 7";
        String richer = "marks 6" + ";person 63 99".repeat(8) + ";tie 0 1 9;tie 2 1 9;boat 0 1;boat 1 2;boat 2 3;glass 3";
        Edge.alike("the one before the last was rich",
            () -> Edge.with(Edge::rich, m -> Check.island(m, richer) + Check.island(m, text)),
            () -> Edge.with(Edge::early, m -> Check.island(m, text) + m.seed(4711)));
        Edge.alike("HOURS were DRAWN ahead of it",
            () -> Edge.with(Edge::rich, m -> m.drawn(0, 20, 60, 50, 0) + Check.island(m, text)),
            () -> Edge.with(Edge::early, m -> Check.island(m, text) + m.seed(4711)));
        Edge.alike("one with a FAULT was ahead of it",
            () -> Edge.with(Edge::early, m -> Check.island(m, richer + ";") + Check.island(m, text)),
            () -> Edge.with(Edge::early, m -> Check.island(m, text)));
    }

    private static void islandOfAnEmptyTape() {
        Check.sentence("P4: -2 - its FAULT, and all stays");
        Edge.nothing(() -> Edge.with(Edge::rich, m -> m.end(0)), "island of nothing", OneMirror::island, Check.fault(0, 0));
        Edge.nothing(OneMirror::new, "island of nothing", OneMirror::island, Check.fault(0, 0));
    }

    private static void faultLeavesAll() {
        Check.sentence("P4: The TAPE, which is empty then; -2 - its FAULT, and all stays");
        for (String text : new String[] {"marks 2;person 1 1;person 2 2;tie 0 1 3;boat 0 1;glass 1;", "marks 4;person 16 0",
            "glass 0", "marks 1"}) {
            OneMirror m = Edge.rich();
            Check.due("a FAULT", Check.island(m, text) < -2, true);
            Check.due("bytes", m.count(11), 0);
            Edge.alike("island \"" + text + "\"",
                () -> Edge.with(Edge::rich, n -> Check.island(n, text)),
                () -> Edge.with(Edge::rich, n -> n.end(0)));
        }
    }
}
