import java.io.PrintWriter;
import java.io.StringWriter;
import java.util.HashMap;
import java.util.HashSet;
import java.util.Map;
import java.util.Optional;
import java.util.Set;
import java.util.TreeMap;
import java.util.TreeSet;
import java.util.regex.Matcher;
import java.util.regex.Pattern;
import java.util.spi.ToolProvider;

/** Rules of LANGUAGE.md that the compiled class shows: what of the library is called, how deep calls go, how long methods are. */
public final class LanguageTest {
    private static final Pattern HEADER = Pattern.compile("  (?:[\\w\\[\\]$.]+ )*([\\w$]+)\\((.*)\\);");
    private static final Pattern CALLED = Pattern.compile(".* invoke\\w+ .*// (?:Interface)?Method ([^:]+):.*");
    private static final Pattern LINE = Pattern.compile(" +line (\\d+): \\d+");
    private static final Pattern MADE = Pattern.compile(".*: (new|newarray|anewarray|multianewarray) .*");
    private static final Pattern LIBRARY = Pattern.compile("java/lang/(Object\\.<init>|System\\.arraycopy"
        + "|(Math|Integer|Long)\\.(?!\\w*Exact)\\w+|String\\.(length|charAt|isEmpty|equals|indexOf|substring|toCharArray))");
    // The reader of a text, an inspector's rounds, orders of choices: each has a guard on its depth.
    private static final Set<String> RECURSIVE = Set.of(
        "TokenValley$Reader.expression", "TokenValley$Reader.part", "TokenValley$Rounds.goRound", "TokenValley$Plans.putNext");

    private static final Map<String, Set<String>> calls = new TreeMap<>();
    private static final Map<String, Set<String>> reached = new HashMap<>();
    private static final Map<String, Integer> depths = new HashMap<>();
    private static String method;
    private static int firstLine;

    public static void main(String[] args) {
        Optional<ToolProvider> javap = ToolProvider.findFirst("javap");
        if (javap.isEmpty()) {
            System.out.println("no javap here: nothing is asked");
            return;
        }
        look(javap.get(), "TokenValley");
        for (Class<?> c : TokenValley.class.getDeclaredClasses()) look(javap.get(), c.getName());
        Due.due("the methods were found", calls.size() > TokenValley.class.getDeclaredMethods().length ? 1 : 0, 1);
        Due.due("calls were followed through the classes", depth("TokenValley.beside") > 4 ? 1 : 0, 1);
        for (String name : calls.keySet()) {
            for (String other : calls.get(name)) {
                boolean allowed = calls.containsKey(other) || LIBRARY.matcher(other).matches();
                Due.due("rule 4: " + name + " calls " + other, allowed ? 1 : 0, 1);
            }
            boolean recursive = reach(name).contains(name) && !RECURSIVE.contains(name);
            Due.due("rule 8: " + name + " calls itself", recursive ? 1 : 0, 0);
            if (depth(name) > 8) Due.due("rule 11: calls from " + name + " go deep", depth(name), 8);
        }
        Due.end();
    }

    private static void look(ToolProvider javap, String ofClass) {
        StringWriter out = new StringWriter();
        String path = System.getProperty("java.class.path");
        int code = javap.run(new PrintWriter(out, true), new PrintWriter(System.out, true), "-c", "-p", "-l", "-cp", path, ofClass);
        Due.due("javap of " + ofClass, code, 0);
        method = "";
        for (String line : out.toString().split("\\R")) {
            Matcher header = HEADER.matcher(line);
            if (line.equals("  static {};")) begin(ofClass + ".<clinit>", "");
            else if (header.matches()) begin(nameOf(ofClass, header.group(1)), header.group(2));
            else lookAt(ofClass, line);
        }
    }

    private static String nameOf(String ofClass, String told) {
        return ofClass + "." + (told.equals(ofClass) ? "<init>" : told);
    }

    private static void begin(String name, String parameters) {
        method = name;
        firstLine = 0;
        calls.put(name, new TreeSet<>());
        int many = parameters.isEmpty() ? 0 : parameters.split(",").length;
        Due.due("rule 11: parameters of " + name, many <= 7 ? 1 : 0, 1);
    }

    private static void lookAt(String ofClass, String line) {
        Matcher called = CALLED.matcher(line);
        if (called.matches()) {
            String other = called.group(1).replace("\"", "");
            calls.get(method).add(other.contains(".") ? other : ofClass + "." + other);
        }
        Matcher number = LINE.matcher(line);
        if (number.matches()) {
            int at = Integer.parseInt(number.group(1));
            if (firstLine == 0) firstLine = at;
            // A constructor's fields stand where they are told, ahead of its own lines.
            if (at - firstLine > 60 && !method.endsWith("init>")) Due.due("rule 11: lines of " + method, at - firstLine, 60);
        }
        // The room: what is made behind the constructors is a TEXT's row alone.
        boolean mayMake = method.endsWith("init>") || method.equals("TokenValley$Reader.codeRow");
        if (MADE.matcher(line).matches() && !mayMake) Due.due("rule 12: " + method + " has " + line.trim(), 1, 0);
        boolean ruledOut = line.contains("Exception table") || line.contains("athrow") || line.contains("invokedynamic");
        if (ruledOut) Due.due("rules 2, 6: " + method + " has " + line.trim(), 1, 0);
    }

    /** All that a method calls, or what it calls does. */
    private static Set<String> reach(String name) {
        Set<String> found = reached.get(name);
        if (found != null) return found;
        found = new HashSet<>();
        add(name, found);
        reached.put(name, found);
        return found;
    }

    private static void add(String name, Set<String> found) {
        for (String other : calls.getOrDefault(name, Set.of())) if (found.add(other)) add(other, found);
    }

    /** Methods that call one another count as one level: what is no recursion is counted. */
    private static int depth(String name) {
        Integer known = depths.get(name);
        if (known != null) return known;
        int deepest = 0;
        Set<String> group = new HashSet<>(Set.of(name));
        for (String other : reach(name)) if (reach(other).contains(name)) group.add(other);
        for (String member : group) {
            for (String other : calls.getOrDefault(member, Set.of())) {
                if (calls.containsKey(other) && !group.contains(other)) deepest = Math.max(deepest, depth(other));
            }
        }
        depths.put(name, deepest + 1);
        return deepest + 1;
    }
}
