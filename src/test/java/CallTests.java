import java.io.PrintWriter;
import java.io.StringWriter;
import java.nio.file.Path;
import java.util.ArrayDeque;
import java.util.Deque;
import java.util.List;
import java.util.Map;
import java.util.Set;
import java.util.TreeMap;
import java.util.TreeSet;
import java.util.regex.Matcher;
import java.util.regex.Pattern;
import java.util.spi.ToolProvider;

/** What LANGUAGE.md says of calls and of what is made, seen from the compiled class, where no word can hide it. */
public final class CallTests {
    private static final int MOST_DEEP = 8;
    private static final Pattern CLASS = Pattern.compile("^(?:[a-z]+ )*class ([\\w$]+)[^{]*\\{$");
    private static final Pattern METHOD = Pattern.compile("^  (?:[\\w$.\\[\\]]+ )*([\\w$]+)\\(.*\\);$");
    private static final Pattern CALL = Pattern.compile("invoke\\w+ .*Method (?:([\\w$/\\[\\];]+)\\.)?\"?([\\w<>]+)\"?:");
    private static final Pattern MAKES = Pattern.compile("\\d+: (?:new|newarray|anewarray|multianewarray) ");
    private static final Pattern LIBRARY = Pattern.compile("java/lang/Object\\.<init>|java/lang/System\\.arraycopy"
        + "|java/lang/(?:Math|Integer|Long)\\.\\w+(?<!Exact)|java/util/Arrays\\.(?:fill|copyOf|copyOfRange)");

    private final Map<String, Set<String>> calls = new TreeMap<>();
    private final Set<String> makers = new TreeSet<>();
    private int wrong = 0;

    private void must(boolean so, String what) {
        if (!so) {
            wrong++;
            System.out.println("CALLS: " + what);
        }
    }

    private static String listing(ToolProvider javap) throws Exception {
        Path classes = Path.of(BooleanRuns.class.getProtectionDomain().getCodeSource().getLocation().toURI());
        StringWriter out = new StringWriter();
        for (Class<?> c : all()) {
            String file = classes.resolve(c.getName() + ".class").toString();
            int code = javap.run(new PrintWriter(out), new PrintWriter(System.out), "-c", "-p", file);
            if (code != 0) throw new IllegalStateException("javap ends with " + code);
        }
        return out.toString();
    }

    private static List<Class<?>> all() {
        List<Class<?>> all = new java.util.ArrayList<>(List.of(BooleanRuns.class.getDeclaredClasses()));
        all.add(BooleanRuns.class);
        return all;
    }

    private void read(String listing) {
        String owner = "";
        String method = "";
        for (String line : listing.split("\\R")) {
            Matcher m = CLASS.matcher(line);
            if (m.matches()) owner = m.group(1);
            m = METHOD.matcher(line);
            if (m.matches()) {
                method = owner + "." + (m.group(1).equals(owner) ? "<init>" : m.group(1));
                must(!calls.containsKey(method), "two methods are " + method + ", which this test can't tell apart");
                calls.put(method, new TreeSet<>());
            }
            m = CALL.matcher(line);
            if (m.find()) calls.get(method).add((m.group(1) == null ? owner : m.group(1)) + "." + m.group(2));
            if (MAKES.matcher(line).find()) makers.add(method);
        }
    }

    /** How many calls stand open at once below a method, with it; a way that comes back to itself is told. */
    private int depthOf(String method, Deque<String> way, Map<String, Integer> known) {
        if (way.contains(method)) {
            must(false, method + " calls itself: " + way);
            return 0;
        }
        if (known.containsKey(method)) return known.get(method);
        way.push(method);
        int deepest = 0;
        for (String called : calls.getOrDefault(method, Set.of())) {
            deepest = Math.max(deepest, depthOf(called, way, known));
        }
        way.pop();
        known.put(method, deepest + 1);
        return deepest + 1;
    }

    private void check() {
        must(calls.size() > 100, "only " + calls.size() + " methods are seen");
        Map<String, Integer> known = new TreeMap<>();
        for (String method : calls.keySet()) {
            int deep = depthOf(method, new ArrayDeque<>(), known);
            must(deep <= MOST_DEEP, method + " goes " + deep + " deep");
            for (String called : calls.get(method)) {
                must(calls.containsKey(called) || LIBRARY.matcher(called).matches(), method + " calls " + called);
            }
        }
        for (String maker : makers) must(maker.endsWith(".<init>"), maker + " makes an object or an array");
    }

    public static void main(String[] args) throws Exception {
        ToolProvider javap = ToolProvider.findFirst("javap").orElse(null);
        if (javap == null) {
            System.out.println("CallTests: this Java has no javap, so nothing is seen");
            return;
        }
        CallTests t = new CallTests();
        t.read(listing(javap));
        t.check();
        System.out.println("CallTests: " + t.calls.size() + " methods, " + t.wrong + " wrong");
        if (t.wrong > 0) System.exit(1);
    }
}
