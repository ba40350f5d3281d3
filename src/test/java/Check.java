/** What the tests have in common: texts put on the tape, answers looked at, and how many were wrong. */
final class Check {
    private static int wrong = 0;
    private static int looked = 0;
    private static String sentence = "";

    private Check() {
    }

    static void due(String call, long got, long want) {
        looked++;
        if (got != want) {
            wrong++;
            if (wrong <= 50) {
                System.out.println(sentence + call + " answered " + got + ", due is " + want);
            }
        }
    }

    /** The words of the document that the answers from here on are due by; named if one is wrong. */
    static void sentence(String words) {
        sentence = "[" + words + "] ";
    }

    static void due(String call, boolean got, boolean want) {
        due(call, got ? 1 : 0, want ? 1 : 0);
    }

    static void finish() {
        System.out.println(wrong == 0 ? looked + " answers are as due" : wrong + " of " + looked + " answers are not as due");
        if (wrong != 0) {
            System.exit(1);
        }
    }

    /** Behind the last sign come zeros, which end takes away. */
    static void put(OneMirror mirror, String text) {
        mirror.end(0);
        int[] five = new int[5];
        for (int at = 0; at < text.length(); at += 20) {
            for (int i = 0; i < 5; i++) {
                five[i] = 0;
                for (int j = 0; j < 4; j++) {
                    int place = at + 4 * i + j;
                    five[i] = five[i] << 8 | (place < text.length() ? text.charAt(place) & 255 : 0);
                }
            }
            mirror.feed(five[0], five[1], five[2], five[3], five[4]);
        }
        mirror.end(text.length());
    }

    static int island(OneMirror mirror, String text) {
        put(mirror, text);
        return mirror.island();
    }

    static int rule(OneMirror mirror, String text) {
        put(mirror, text);
        return mirror.rule();
    }

    static OneMirror withIsland(String text) {
        OneMirror mirror = new OneMirror();
        int people = island(mirror, text);
        if (people < 1) {
            due("island(" + text + ")", people, 1);
        }
        return mirror;
    }

    /** What a call answers to a text with a fault of a kind at a place. */
    static int fault(int place, int kind) {
        return -2 - (1 + 8 * place + kind);
    }

    static void islandFault(String text, int place, int kind) {
        due("island \"" + text + "\"", island(new OneMirror(), text), fault(place, kind));
    }

    static void ruleFault(String text, int place, int kind) {
        due("rule \"" + text + "\"", rule(new OneMirror(), text), fault(place, kind));
    }
}
