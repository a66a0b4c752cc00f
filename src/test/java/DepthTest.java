import java.io.File;
import java.io.PrintWriter;
import java.io.StringWriter;
import java.util.ArrayList;
import java.util.HashMap;
import java.util.List;
import java.util.Map;
import java.util.Set;
import java.util.TreeSet;
import java.util.regex.Matcher;
import java.util.regex.Pattern;
import java.util.spi.ToolProvider;

/** Rules 8 and 11 of LANGUAGE.md: calls that are no recursion go at most eight deep; what recurs carries its depth. */
public final class DepthTest {
    private static final int DEEPEST = 8;
    /** Those that come back to themselves, each with a depth that is handed on and looked at. */
    private static final Set<String> RECURRING = Set.of("Law.readPart", "Law.readOperand", "Acts.perform", "Acts.run",
        "Acts.own", "Seating.tryFrom");
    private static final Check check = new Check();
    private static final Map<String, Set<String>> calls = new HashMap<>();

    public static void main(String[] args) throws Exception {
        if (ToolProvider.findFirst("javap").isEmpty()) {
            System.out.println("DepthTest: this Java has no javap, so nothing was looked at");
            return;
        }
        File folder = new File(FortyDesks.class.getProtectionDomain().getCodeSource().getLocation().toURI());
        for (String file : folder.list()) {
            if (file.matches("FortyDesks(\\$\\w+)?\\.class")) readCalls(new File(folder, file), file.replace(".class", ""));
        }
        check.dueTrue("calls are found: " + calls.size(), calls.size() > 100);
        Set<String> recurring = new TreeSet<>();
        for (String method : calls.keySet()) if (reached(method).contains(method)) recurring.add(method);
        check.dueTrue("none but these recur: " + recurring, recurring.equals(new TreeSet<>(RECURRING)));
        for (String method : calls.keySet()) {
            if (!method.startsWith("FortyDesks.")) continue;
            List<String> chain = longest(method, new ArrayList<>());
            check.dueTrue("at most eight deep: " + chain, chain.size() <= DEEPEST);
        }
        check.end("DepthTest");
    }

    private static void readCalls(File file, String owner) {
        StringWriter out = new StringWriter();
        PrintWriter to = new PrintWriter(out);
        int answer = ToolProvider.findFirst("javap").orElseThrow().run(to, to, "-c", "-p", file.getPath());
        check.due("javap of " + file.getName(), answer, 0);
        Pattern begins = Pattern.compile("  (?:\\S+ )*?([\\w.$]+)\\(.*\\);");
        Pattern invokes = Pattern.compile(".*: invoke\\w+ .*// (?:Interface)?Method ([^:]+):.*");
        Set<String> from = null;
        for (String line : out.toString().split("\\R")) {
            Matcher method = begins.matcher(line);
            if (method.matches()) {
                String name = method.group(1).equals(owner) ? "\"<init>\"" : method.group(1);
                from = calls.computeIfAbsent(plain(owner + "." + name), k -> new TreeSet<>());
            }
            Matcher called = invokes.matcher(line);
            if (from == null || !called.matches()) continue;
            from.add(plain(called.group(1).contains(".") ? called.group(1) : owner + "." + called.group(1)));
        }
    }

    private static String plain(String name) {
        return name.replace("FortyDesks$", "").replace('/', '.');
    }

    private static Set<String> reached(String method) {
        Set<String> all = new TreeSet<>();
        List<String> open = new ArrayList<>(calls.getOrDefault(method, Set.of()));
        while (!open.isEmpty()) {
            String next = open.remove(open.size() - 1);
            if (all.add(next)) open.addAll(calls.getOrDefault(next, Set.of()));
        }
        return all;
    }

    /** The longest chain of calls in which no method stands twice. */
    private static List<String> longest(String method, List<String> above) {
        List<String> chain = new ArrayList<>(above);
        chain.add(method);
        List<String> most = chain;
        for (String next : calls.getOrDefault(method, Set.of())) {
            if (chain.contains(next)) continue;
            List<String> found = longest(next, chain);
            if (found.size() > most.size()) most = found;
        }
        return most;
    }
}
