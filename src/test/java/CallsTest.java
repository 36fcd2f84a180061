import java.io.PrintWriter;
import java.io.StringWriter;
import java.nio.file.Files;
import java.nio.file.Path;
import java.util.ArrayDeque;
import java.util.Deque;
import java.util.List;
import java.util.Map;
import java.util.Set;
import java.util.TreeMap;
import java.util.TreeSet;
import java.util.regex.Matcher;
import java.util.regex.Pattern;
import java.util.spi.ToolProvider;
import java.util.stream.Collectors;
import java.util.stream.Stream;

/** What the compiled class tells of LANGUAGE.md: library calls (4), depth of calls (8, 11), objects made (12). */
public final class CallsTest {
    private static final String FACE = "PlannedTables";
    private static final String EXCEPTION = "java/(lang/(IllegalState|IllegalArgument|IndexOutOfBounds|Arithmetic"
            + "|UnsupportedOperation|Runtime)|util/NoSuchElement)Exception";
    private static final String LIBRARY = "java/lang/Object\\.<init>|" + EXCEPTION + "\\.<init>"
            + "|java/lang/System\\.arraycopy|java/util/Arrays\\.(copyOf|copyOfRange|fill)"
            + "|java/lang/(Math|Integer|Long)\\.\\w+(?<!Exact)";
    private static final int DEEPEST = 8;

    private static final Due due = new Due();
    /** What each method calls, and of which classes it makes objects; a method is written Class.name. */
    private static final Map<String, Set<String>> calls = new TreeMap<>();
    private static final Map<String, Set<String>> makes = new TreeMap<>();

    public static void main(String[] args) throws Exception {
        read(javap());
        due.holds("the compiled class was read: " + calls.keySet(), calls.containsKey(FACE + ".run")
                && calls.get(FACE + ".run").contains(FACE + "$Run.askForAll"));
        libraryCalls();
        for (String method : calls.keySet()) {
            depth(method, new ArrayDeque<>());
        }
        objectsMade();
        due.end();
    }

    private static String javap() throws Exception {
        Path place = Path.of(PlannedTables.class.getProtectionDomain().getCodeSource().getLocation().toURI());
        StringWriter text = new StringWriter();
        try (Stream<Path> files = Files.list(place)) {
            List<String> names = files.map(Path::toString)
                    .filter(f -> f.matches(".*[/\\\\]PlannedTables(\\$\\w+)?\\.class")).collect(Collectors.toList());
            names.addAll(0, List.of("-c", "-p"));
            PrintWriter to = new PrintWriter(text);
            int failed = ToolProvider.findFirst("javap").orElseThrow().run(to, to, names.toArray(new String[0]));
            to.flush();
            due.same("javap", failed, 0);
        }
        return text.toString();
    }

    private static void read(String text) {
        Pattern type = Pattern.compile("^\\S.*\\bclass (PlannedTables[\\w$]*)");
        Pattern head = Pattern.compile("^  (?:\\S.* )?([\\w$]+)\\([^()]*\\).*;$");
        Pattern call = Pattern.compile("\\binvoke\\w+ .*// (?:Interface)?Method (?:([\\w/$]+)\\.)?\"?([\\w<>]+)\"?:");
        Pattern made = Pattern.compile(": (?:new|newarray|anewarray|multianewarray) .*?(?:// class )?\"?([\\w/$\\[;]+)\"?$");
        String inside = "";
        String method = "";
        for (String line : text.split("\\R")) {
            Matcher m = type.matcher(line);
            if (m.find()) {
                inside = m.group(1);
            } else if ((m = head.matcher(line)).find()) {
                method = inside + "." + (m.group(1).equals(inside) ? "<init>" : m.group(1));
                due.holds(method + " is the only one of its name", !calls.containsKey(method));
                calls.put(method, new TreeSet<>());
                makes.put(method, new TreeSet<>());
            } else if ((m = call.matcher(line)).find()) {
                calls.get(method).add((m.group(1) == null ? inside : m.group(1)) + "." + m.group(2));
            } else if ((m = made.matcher(line)).find()) {
                makes.get(method).add(m.group(1));
            } else {
                due.holds("read: " + line, !line.contains(": invoke") && !line.matches(".*: \\w*new.*"));
            }
        }
    }

    private static void libraryCalls() {
        for (Map.Entry<String, Set<String>> e : calls.entrySet()) {
            for (String called : e.getValue()) {
                due.holds("4: " + e.getKey() + " calls " + called,
                        calls.containsKey(called) || called.matches(LIBRARY));
            }
        }
    }

    /** Follows the calls below a method; on is the way that led there. */
    private static void depth(String method, Deque<String> on) {
        if (on.contains(method) || on.size() >= DEEPEST) {
            due.holds("8, 11: no recursion, and calls eight deep at most: " + on + " " + method, false);
            return;
        }
        on.addLast(method);
        for (String called : calls.get(method)) {
            if (calls.containsKey(called)) {
                depth(called, on);
            }
        }
        on.removeLast();
        due.holds(method, true);
    }

    /** All objects of one run of calls stay, so only constructors and run(), a row and its user, may make any. */
    private static void objectsMade() {
        for (Map.Entry<String, Set<String>> e : makes.entrySet()) {
            boolean constructor = e.getKey().endsWith(".<init>");
            for (String made : e.getValue()) {
                due.holds("12: " + e.getKey() + " makes " + made, constructor || made.matches(EXCEPTION)
                        || (e.getKey().equals(FACE + ".run") && made.equals(FACE + "$Run")));
            }
        }
    }
}
