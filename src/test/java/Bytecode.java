import java.io.PrintWriter;
import java.io.StringWriter;
import java.util.ArrayList;
import java.util.HashMap;
import java.util.HashSet;
import java.util.List;
import java.util.Map;
import java.util.Set;
import java.util.TreeMap;
import java.util.TreeSet;
import java.util.regex.Matcher;
import java.util.regex.Pattern;
import java.util.spi.ToolProvider;

/** What stands in the compiled class, as javap tells it: who calls whom, and what is made where. */
final class Bytecode {
    private static final Pattern CLASS = Pattern.compile("(?:.* )?class (ShareNets\\S*)(?: extends (\\S+))? \\{");
    private static final Pattern METHOD = Pattern.compile("  (?:.* )?(\\S+)\\(.*\\);");
    private static final Pattern DESCRIPTOR = Pattern.compile("    descriptor: (\\(.*)");
    private static final Pattern STEP = Pattern.compile(" *\\d+: (\\w+)(.*)");
    private static final Pattern CALLED = Pattern.compile(".*// (?:Interface)?Method (?:(\\S+)\\.)?([^.:]+):(\\S+)");

    /** By "Class.name(types)type": the calls in it, "special " before those that no class below can take over. */
    final Map<String, Set<String>> calls = new TreeMap<>();
    final Map<String, String> above = new HashMap<>();
    /** Words of the machine with the methods that they stand in. */
    final Map<String, Set<String>> steps = new TreeMap<>();
    boolean catches = false;

    static Bytecode of(List<Class<?>> classes) {
        List<String> arguments = new ArrayList<>(List.of("-c", "-p", "-s", "-cp", System.getProperty("java.class.path")));
        for (Class<?> one : classes) {
            arguments.add(one.getName());
        }
        StringWriter told = new StringWriter();
        ToolProvider javap = ToolProvider.findFirst("javap").orElse(null);
        if (javap == null || javap.run(new PrintWriter(told), new PrintWriter(told), arguments.toArray(new String[0])) != 0) {
            return null;
        }
        Bytecode made = new Bytecode();
        made.read(told.toString().split("\n"));
        return made;
    }

    private void read(String[] lines) {
        String inside = "";
        String name = "";
        String method = "";
        for (String line : lines) {
            Matcher one = CLASS.matcher(line);
            Matcher two = METHOD.matcher(line);
            Matcher three = DESCRIPTOR.matcher(line);
            Matcher four = STEP.matcher(line);
            catches |= line.contains("Exception table");
            if (one.matches()) {
                inside = one.group(1);
                above.put(inside, one.group(2) == null ? "" : one.group(2));
            } else if (line.equals("  static {};")) {
                name = "<clinit>";
            } else if (two.matches()) {
                name = two.group(1).equals(inside) ? "<init>" : two.group(1);
            } else if (three.matches()) {
                method = inside + "." + name + three.group(1);
                calls.put(method, new TreeSet<>());
            } else if (four.matches()) {
                steps.computeIfAbsent(four.group(1), k -> new TreeSet<>()).add(method);
                Matcher called = CALLED.matcher(four.group(2));
                if (called.matches()) {
                    String to = (called.group(1) == null ? inside : called.group(1)) + "." + called.group(2).replace("\"", "") + called.group(3);
                    calls.get(method).add((four.group(1).equals("invokevirtual") ? "" : "special ") + to);
                }
            }
        }
    }

    /** Calls of what is not in the class itself. */
    Set<String> outside() {
        Set<String> found = new TreeSet<>();
        for (Set<String> some : calls.values()) {
            for (String to : some) {
                String plain = to.replace("special ", "");
                if (!plain.startsWith("ShareNets")) {
                    found.add(plain.substring(0, plain.indexOf('(')));
                }
            }
        }
        return found;
    }

    /** The longest row of calls that stand open at once from a method on, where things are of one class; recursion counts once. */
    List<String> deepest(String method, String ofClass, Set<String> open, Set<String> recursive) {
        List<String> longest = new ArrayList<>();
        open.add(method);
        for (String to : calls.get(method)) {
            String next = resolve(to, ofClass);
            if (next == null) {
                continue;
            }
            if (open.contains(next)) {
                recursive.add(next.equals(method) ? method : "round " + method + " and " + next);
                continue;
            }
            List<String> row = deepest(next, ofClass, open, recursive);
            if (row.size() > longest.size()) {
                longest = row;
            }
        }
        open.remove(method);
        longest.add(0, method);
        return longest;
    }

    /** The body that a call runs; null for one of the library. */
    private String resolve(String to, String ofClass) {
        String plain = to.replace("special ", "");
        String from = plain.substring(0, plain.indexOf('.'));
        String rest = plain.substring(plain.indexOf('.'));
        if (!to.startsWith("special ") && isUnder(ofClass, from)) {
            from = ofClass;
        }
        while (from != null && !calls.containsKey(from + rest)) {
            from = above.get(from);
        }
        return from == null ? null : from + rest;
    }

    private boolean isUnder(String one, String other) {
        Set<String> seen = new HashSet<>();
        for (String at = one; at != null && seen.add(at); at = above.get(at)) {
            if (at.equals(other)) {
                return true;
            }
        }
        return false;
    }
}
