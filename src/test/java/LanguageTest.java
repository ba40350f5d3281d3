import java.nio.file.Files;
import java.nio.file.Path;
import java.util.ArrayList;
import java.util.List;
import java.util.Set;
import java.util.TreeSet;
import java.util.regex.Matcher;
import java.util.regex.Pattern;

/** Rules of LANGUAGE.md that can be seen in the text of the class. It is run from the project's own place. */
public final class LanguageTest {
    private static final Set<String> LIBRARY = Set.of("Math.max", "Math.min", "Math.abs", "Math.floorMod",
        "Integer.bitCount", "System.arraycopy");

    private LanguageTest() {
    }

    public static void main(String[] args) throws Exception {
        String text = Files.readString(Path.of("src/main/java/OneMirror.java"));
        signs(text);
        String code = text.replaceAll("(?s)/\\*.*?\\*/", "").replaceAll("//[^\n]*", "");
        String bare = code.replaceAll("\"[^\"\n]*\"", "TEXT").replaceAll("'[^'\n]'", "SIGN");
        words(bare);
        library(bare);
        loops(bare);
        methods(bare.split("\n"));
        Check.finish();
    }

    private static void holds(String what, boolean does) {
        Check.due(what, does, true);
    }

    private static void signs(String text) {
        for (int i = 0; i < text.length(); i++) {
            char sign = text.charAt(i);
            if (sign != '\n' && (sign < 32 || sign > 126)) {
                holds("a sign " + (int) sign, false);
            }
        }
    }

    private static void words(String bare) {
        for (String word : new String[] {"package", "import", "throw", "throws", "try", "catch", "finally", "synchronized",
            "assert", "protected", "static\\s*\\{", "while\\s*\\(true\\)", "for\\s*\\(;;\\)", "->", "::", "TEXT\\s*\\+",
            "\\+\\s*TEXT", "volatile", "native", "var", "Object", "Thread", "Random"}) {
            Pattern pattern = Pattern.compile(Character.isLetter(word.charAt(0)) ? "\\b" + word + "\\b" : word);
            if (word.contains("{") || word.contains("(")) {
                pattern = Pattern.compile(word);
            }
            holds("no " + word, !pattern.matcher(bare).find());
        }
        Check.due("classes", bare.split("\\bclass\\b", -1).length - 1, 12);
    }

    private static void library(String bare) {
        Set<String> used = new TreeSet<>();
        Matcher matcher = Pattern.compile("\\b(Math|Integer|Long|System|Arrays|String)\\.\\w+").matcher(bare);
        while (matcher.find()) {
            used.add(matcher.group());
        }
        for (String one : used) {
            holds(one + " is in the list", LIBRARY.contains(one));
        }
    }

    /** No loop but for, and each with three parts: so each has a counter. */
    private static void loops(String bare) {
        holds("no while", !Pattern.compile("\\b(while|do)\\b").matcher(bare).find());
        Matcher matcher = Pattern.compile("\\bfor \\(([^{]*)\\) \\{").matcher(bare);
        int loops = 0;
        while (matcher.find()) {
            loops++;
            String[] parts = matcher.group(1).split(";");
            holds("for (" + matcher.group(1) + ")", parts.length == 3 && parts[1].matches(".*(<|>=).*"));
        }
        Check.due("each for was seen", loops, bare.split("\\bfor\\b", -1).length - 1);
    }

    /** Nothing is made but in constructors, and no method is long. */
    private static void methods(String[] lines) {
        List<String> seen = new ArrayList<>();
        String name = "";
        int start = 0;
        for (int i = 0; i < lines.length; i++) {
            Matcher head = Pattern.compile("^( {4}| {8})(private|public) [^=;]*?(\\w+)\\(.*\\{$").matcher(lines[i]);
            if (head.find()) {
                name = head.group(3);
                start = i;
                seen.add(name);
            }
            if (lines[i].matches("^( {4}| {8})\\}$")) {
                holds(name + " has " + (i - start) + " lines", i - start <= 60);
                start = i;
            }
            if (lines[i].matches(".*\\bnew\\b.*")) {
                holds("made in a constructor: " + lines[i], Character.isUpperCase(name.charAt(0)));
            }
            holds("no long line: " + lines[i], lines[i].length() <= 120);
        }
        holds("methods were seen: " + seen.size(), seen.size() > 100);
    }
}
