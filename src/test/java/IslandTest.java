/** Promises 4, 7 and 9: the ISLAND's language with its FAULTS, and what was told of people and ties. */
public final class IslandTest {
    private IslandTest() {
    }

    public static void main(String[] args) {
        goodTexts();
        faultsOfMarks();
        faultsOfPeople();
        faultsOfTiesBoatsGlass();
        tooManyClauses();
        firstFaultCounts();
        faultLeavesAll();
        newIslandClears();
        peopleAsTold();
        tiesAsTold();
        boatsAndGlassAsTold();
        Check.finish();
    }

    private static void good(String text, int people) {
        Check.due("island \"" + text + "\"", Check.island(new OneMirror(), text), people);
    }

    private static void goodTexts() {
        good("marks 1;person 0 0", 1);
        good("marks1;person0 0", 1);
        good("  marks   1 ; person 1  99  ", 1);
        good("marks 00006;person 00063 00099", 1);
        good("marks 6;person 63 0;person 0 99;tie 0 1 9;tie 1 0 1;boat 0 1;glass 1;glass 0", 2);
        good("marks 2;" + "person 3 1;".repeat(7) + "person 0 0", 8);
        good("marks 1;person 0 0;" + "glass 0;".repeat(37) + "glass 0", 1);
        good(" ".repeat(382) + "marks 1;person 0 0", 1);
    }

    private static void faultsOfMarks() {
        Check.islandFault("", 0, 0);
        Check.islandFault("   ", 3, 0);
        Check.islandFault("marks", 5, 0);
        Check.islandFault("marks  ", 7, 0);
        Check.islandFault("marks 0", 6, 1);
        Check.islandFault("marks 7", 6, 1);
        Check.islandFault("marks 000001", 6, 1);
        Check.islandFault("marks 1", 7, 0);
        Check.islandFault("marks 1  ", 9, 0);
        Check.islandFault("marks 1;", 8, 0);
        Check.islandFault("marks 1 1", 8, 0);
        Check.islandFault("markss 1", 0, 0);
        Check.islandFault("mark 1", 0, 0);
        Check.islandFault("Marks 1", 0, 0);
        Check.islandFault("marks x", 6, 0);
        Check.islandFault("marks -1", 6, 0);
        Check.islandFault("marks ;", 6, 0);
        Check.islandFault("marks 1;marks 1", 8, 4);
        Check.islandFault("marks 1;person 0 0;marks 1", 19, 4);
        Check.islandFault("marks\0", 5, 0);
        Check.islandFault("marks 1\0", 7, 0);
        Check.islandFault("marks\t1", 5, 0);
        Check.islandFault("\u00ff", 0, 0);
        Check.islandFault(";", 0, 0);
        Check.islandFault("1", 0, 0);
        Check.islandFault(";".repeat(400), 0, 0);
        Check.islandFault("marks 1" + " ".repeat(393), 400, 0);
        Check.islandFault("marks 1;" + "1".repeat(392), 8, 0);
    }

    private static void faultsOfPeople() {
        Check.islandFault("person 0 0", 0, 4);
        Check.islandFault(" person 0 0;marks 1", 1, 4);
        Check.islandFault("tie 0 1 1", 0, 4);
        Check.islandFault("glass 0", 0, 4);
        Check.islandFault("tell 1", 0, 0);
        Check.islandFault("marks 1;tell 1", 8, 0);
        Check.islandFault("marks 1;person", 14, 0);
        Check.islandFault("marks 1;person 0", 16, 0);
        Check.islandFault("marks 1;person 0;", 16, 0);
        Check.islandFault("marks 1;person 2 0", 15, 1);
        Check.islandFault("marks 6;person 64 0", 15, 1);
        Check.islandFault("marks 6;person 000000 0", 15, 1);
        Check.islandFault("marks 1;person 0 100", 17, 1);
        Check.islandFault("marks 1;person 0 123456", 17, 1);
        Check.islandFault("marks 1;person 0 0 0", 19, 0);
        Check.islandFault("marks 1;person 0 0 123456", 19, 0);
        Check.islandFault("marks 1;person 0 0;", 19, 0);
        Check.islandFault("marks 1;;person 0 0", 8, 0);
        Check.islandFault("marks 2;" + "person 3 1;".repeat(8) + "person 0 0", 96, 4);
    }

    private static void faultsOfTiesBoatsGlass() {
        String one = "marks 1;person 0 0;";
        String two = "marks 1;person 0 0;person 0 0;";
        Check.islandFault("marks 1;tie 0 0 1", 12, 1);
        Check.islandFault("marks 1;boat 0 1", 13, 1);
        Check.islandFault("marks 1;glass 0;person 0 0", 14, 1);
        Check.islandFault(one + "tie 0 0 1", 25, 1);
        Check.islandFault(one + "tie 0 1 1;person 0 0", 25, 1);
        Check.islandFault(one + "tie 1 0 1", 23, 1);
        Check.islandFault(one + "boat 0 0", 26, 1);
        Check.islandFault(one + "boat 0 1", 26, 1);
        Check.islandFault(one + "boat 0", 25, 0);
        Check.islandFault(one + "glass 1", 25, 1);
        Check.islandFault(one + "glass", 24, 0);
        Check.islandFault(two + "tie 0 1 10", 38, 1);
        Check.islandFault(two + "tie 0 1 0", 38, 1);
        Check.islandFault(two + "tie 0 1", 37, 0);
        Check.islandFault(two + "tie 1 1 1", 36, 1);
        Check.islandFault(two + "tie 1 00001 1", 36, 1);
        Check.islandFault(two + "boat 1 1", 37, 1);
        Check.islandFault(two + "boat 0 2", 37, 1);
        Check.islandFault(two + "boat 0 1 1", 39, 0);
        Check.islandFault(two + "glass 2", 36, 1);
        Check.islandFault(two + "glass 0 0", 38, 0);
        Check.islandFault(two + "boats 0 1", 30, 0);
    }

    private static void tooManyClauses() {
        String forty = "marks 1;person 0 0;" + "glass 0;".repeat(38);
        Check.islandFault(forty + "glass 0", 19 + 38 * 8, 4);
        Check.islandFault(forty + " boat x", 19 + 38 * 8 + 1, 4);
        Check.islandFault(forty + "marks 1", 19 + 38 * 8, 4);
        Check.islandFault(forty + "bloat 0", 19 + 38 * 8, 0);
        Check.islandFault(forty, 19 + 38 * 8, 0);
    }

    private static void firstFaultCounts() {
        Check.islandFault("marks 9;person 9 9;marks 1", 6, 1);
        Check.islandFault("marks 1;person 0 0;tie 5 5 x\0", 23, 1);
        Check.islandFault("marks 1;person 0 0;x;marks 1", 19, 0);
    }

    private static void faultLeavesAll() {
        OneMirror m = Check.withIsland("marks 2;person 1 5;person 2 6;boat 0 1;glass 1");
        Check.rule(m, "weigh 3");
        m.force(0);
        m.look();
        m.wish(0, 0, 1, 5);
        m.view(1, 1);
        m.seed(9);
        m.keep(true);
        Check.due("fault", Check.island(m, "marks 3;person 7 0;glass"), Check.fault(24, 0));
        Check.due("the TAPE is empty then", m.count(11), 0);
        int[] due = {2, 2, 1, 0, 1, 1, 1, 1, 1, 2, 9, 0};
        for (int what = 0; what < due.length; what++) {
            Check.due("count " + what + " after a FAULT", m.count(what), due[what]);
        }
        Check.due("FACE", m.person(1, 0), 2);
        Check.due("boats", m.person(0, 7), 2);
        Check.due("undo", m.undo(), 1);
    }

    private static void newIslandClears() {
        OneMirror m = Check.withIsland("marks 2;person 1 5;person 2 6;tie 0 1 4;boat 0 1;glass 1");
        Check.rule(m, "weigh 3");
        m.force(0);
        m.look();
        m.save();
        m.wish(0, 0, 1, 5);
        m.view(1, 1);
        m.seed(9);
        m.keep(true);
        Check.due("island", Check.island(m, "marks 3;person 7 0;person 6 1"), 2);
        int[] due = {3, 2, 1, 0, 0, 0, 0, 0, 0, 0, 9, 0};
        for (int what = 0; what < due.length; what++) {
            Check.due("count " + what + " of a new ISLAND", m.count(what), due[what]);
        }
        Check.due("TURNS", m.person(1, 2), 0);
        Check.due("LOOKED", m.person(1, 3), 0);
        Check.due("KEEPS", m.person(0, 6), 0);
        Check.due("KEEPS", m.person(1, 6), 0);
        Check.due("boats", m.person(0, 7), 0);
        Check.due("tie", m.tie(0, 1), 0);
        Check.due("undo", m.undo(), -1);
        Check.due("one less", Check.island(m, "marks 1;person 1 0"), 1);
        Check.due("person 1", m.person(1, 0), -1);
    }

    private static void peopleAsTold() {
        OneMirror m = Check.withIsland("marks 3;person 5 10;person 0 99;person 7 0;boat 0 1;boat 1 2;glass 1");
        int[][] due = {{5, 10, 0, 0, 0, 7, 0, 2}, {0, 99, 0, 0, 0, 7, 0, 5}, {7, 0, 0, 0, 0, 7, 0, 2}};
        for (int p = 0; p < 3; p++) {
            for (int what = 0; what < 8; what++) {
                Check.due("person " + p + " " + what, m.person(p, what), due[p][what]);
            }
        }
        m.look();
        m.look();
        m.save();
        m.keep(true);
        int[] then = {0, 99, 1, 2, 0, 0, 1, 5};
        for (int what = 0; what < 8; what++) {
            Check.due("person 1 " + what + " then", m.person(1, what), then[what]);
        }
        Check.due("keeps", m.person(0, 6), 0);
        Check.due("what 8", m.person(0, 8), -1);
        Check.due("what -1", m.person(0, -1), -1);
        Check.due("person 3", m.person(3, 0), -1);
        Check.due("person -1", m.person(-1, 0), -1);
        Check.due("person far", m.person(Integer.MAX_VALUE, 0), -1);
        Check.due("person least", m.person(Integer.MIN_VALUE, 7), -1);
    }

    private static void tiesAsTold() {
        OneMirror m = Check.withIsland("marks 1;person 0 0;person 0 0;person 0 0;tie 0 1 4;tie 1 0 9;tie 0 1 7;tie 2 1 1");
        Check.due("the last told", m.tie(0, 1), 7);
        Check.due("the other way", m.tie(1, 0), 9);
        Check.due("2 1", m.tie(2, 1), 1);
        Check.due("none", m.tie(1, 2), 0);
        Check.due("alike", m.tie(1, 1), -1);
        Check.due("3", m.tie(0, 3), -1);
        Check.due("3", m.tie(3, 0), -1);
        Check.due("-1", m.tie(-1, 0), -1);
        Check.due("8", m.tie(0, 8), -1);
        Check.due("least", m.tie(Integer.MIN_VALUE, Integer.MAX_VALUE), -1);
    }

    private static void boatsAndGlassAsTold() {
        OneMirror m = Check.withIsland("marks 1;person 0 0;person 0 0;person 0 0;boat 2 0;boat 2 0;boat 0 1");
        Check.due("boats 0", m.person(0, 7), 6);
        Check.due("boats 1", m.person(1, 7), 1);
        Check.due("boats 2", m.person(2, 7), 1);
        Check.due("GLASS without", m.count(5), 0);
        OneMirror n = Check.withIsland("marks 1;person 0 0;person 0 0;person 0 0;glass 2;glass 1");
        Check.due("GLASS, the last told", n.count(5), 1);
    }
}
