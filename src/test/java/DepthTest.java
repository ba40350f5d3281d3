import java.io.PrintWriter;
import java.io.StringWriter;
import java.util.ArrayList;
import java.util.LinkedHashMap;
import java.util.LinkedHashSet;
import java.util.List;
import java.util.Map;
import java.util.Set;
import java.util.regex.Matcher;
import java.util.regex.Pattern;
import java.util.spi.ToolProvider;

/** LANGUAGE.md, rules 8 and 11: which methods call one another in a ring, and how deep all other calls go. */
public final class DepthTest {
    private static final Pattern HEAD = Pattern.compile("^  (?! )[^=]*?([\\w$]+)\\(.*\\).*;$");
    private static final Pattern CALL = Pattern.compile("Method (?:([\\w$/]+)\\.)?\"?([\\w<>]+)\"?:\\(");
    private static final Set<String> READERS = Set.of("OneMirror$RuleReader.readTest", "OneMirror$RuleReader.readFact",
        "OneMirror$RuleReader.readOpened");

    private static final Map<String, Set<String>> CALLS = new LinkedHashMap<>();

    private DepthTest() {
    }

    public static void main(String[] args) {
        if (ToolProvider.findFirst("javap").isEmpty()) {
            System.out.println("not looked at: this java has no javap");
            return;
        }
        gather(OneMirror.class);
        for (Class<?> inside : OneMirror.class.getDeclaredClasses()) {
            gather(inside);
        }
        Check.due("methods were seen", CALLS.size() > 100, true);
        for (String method : CALLS.keySet()) {
            Check.due(method + " calls itself by others", reached(method).contains(method), READERS.contains(method));
        }
        for (String method : CALLS.keySet()) {
            List<String> way = deepest(method);
            Check.due("eight deep at most: " + way, way.size() <= 8, true);
        }
        Check.finish();
    }

    private static void gather(Class<?> owner) {
        StringWriter text = new StringWriter();
        ToolProvider javap = ToolProvider.findFirst("javap").orElseThrow();
        PrintWriter to = new PrintWriter(text);
        javap.run(to, to, "-c", "-p", "-cp", System.getProperty("java.class.path"), owner.getName());
        Set<String> calls = new LinkedHashSet<>();
        for (String line : text.toString().split("\\R")) {
            Matcher head = HEAD.matcher(line);
            if (head.find()) {
                String name = head.group(1).equals(owner.getName()) ? "<init>" : head.group(1);
                calls = CALLS.computeIfAbsent(owner.getName() + "." + name, k -> new LinkedHashSet<>());
            }
            Matcher call = CALL.matcher(line);
            if (call.find()) {
                String of = call.group(1) == null ? owner.getName() : call.group(1);
                if (of.startsWith("OneMirror")) {
                    calls.add(of + "." + call.group(2));
                }
            }
        }
    }

    private static Set<String> reached(String method) {
        Set<String> reached = new LinkedHashSet<>();
        List<String> open = new ArrayList<>(CALLS.getOrDefault(method, Set.of()));
        while (!open.isEmpty()) {
            String next = open.remove(open.size() - 1);
            if (reached.add(next)) {
                open.addAll(CALLS.getOrDefault(next, Set.of()));
            }
        }
        return reached;
    }

    /** The longest way down; calls within the ring of readers are not counted: the depth of the text bounds them. */
    private static List<String> deepest(String method) {
        List<String> best = List.of();
        for (String next : CALLS.getOrDefault(method, Set.of())) {
            if (!(READERS.contains(method) && READERS.contains(next))) {
                List<String> way = deepest(next);
                best = way.size() > best.size() ? way : best;
            }
        }
        List<String> all = new ArrayList<>(List.of(method));
        all.addAll(best);
        return all;
    }
}
