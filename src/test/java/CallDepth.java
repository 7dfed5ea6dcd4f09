import java.io.PrintWriter;
import java.io.StringWriter;
import java.nio.file.Path;
import java.util.ArrayList;
import java.util.LinkedHashMap;
import java.util.LinkedHashSet;
import java.util.List;
import java.util.Map;
import java.util.Set;
import java.util.TreeSet;
import java.util.regex.Matcher;
import java.util.regex.Pattern;
import java.util.spi.ToolProvider;

/** How deep the calls of WoodStack's own methods go, told from the compiled classes by the JDK's javap. */
final class CallDepth {
    private static final Pattern HEAD = Pattern.compile("^(?:[a-z]+ )*class (WoodStack[\\w$]*)");
    private static final Pattern METHOD = Pattern.compile("^  \\S.*?([\\w$]+)\\(.*\\);$");
    private static final Pattern CALL = Pattern.compile("// Method (?:([\\w$/]+)\\.)?\"?([\\w<>]+)\"?:");

    private final Map<String, Set<String>> calls = new LinkedHashMap<>();
    private final Set<String> shown = new TreeSet<>();

    /** Reads what javap shows; false where this JDK has none. */
    boolean look(List<Class<?>> classes) throws Exception {
        ToolProvider javap = ToolProvider.findFirst("javap").orElse(null);
        if (javap == null) {
            return false;
        }
        String place = Path.of(WoodStack.class.getProtectionDomain().getCodeSource().getLocation().toURI()).toString();
        for (Class<?> one : classes) {
            StringWriter out = new StringWriter();
            PrintWriter to = new PrintWriter(out);
            javap.run(to, to, "-c", "-p", "-cp", place, one.getName());
            to.flush();
            note(out.toString());
        }
        return true;
    }

    private void note(String text) {
        String inside = "";
        String method = "";
        for (String line : text.split("\\R")) {
            Matcher head = HEAD.matcher(line);
            Matcher made = METHOD.matcher(line);
            Matcher call = CALL.matcher(line);
            if (head.find()) {
                inside = head.group(1);
            } else if (made.matches()) {
                boolean constructor = inside.equals(made.group(1));
                method = inside + "." + (constructor ? "<init>" : made.group(1));
                calls.put(method, new LinkedHashSet<>());
                if (line.startsWith("  public ")) {
                    shown.add(method);
                }
            } else if (call.find() && calls.containsKey(method)) {
                String owner = call.group(1) == null ? inside : call.group(1);
                if (owner.startsWith("WoodStack")) {
                    calls.get(method).add(owner + "." + call.group(2));
                }
            }
        }
    }

    Set<String> shown() {
        return shown;
    }

    /** The longest way of calls from a method on that comes to none twice: a recursion counts by its first level. */
    List<String> longest(String method) {
        return longer(method, new ArrayList<>());
    }

    private List<String> longer(String method, List<String> open) {
        open.add(method);
        List<String> best = new ArrayList<>(open);
        for (String next : calls.getOrDefault(method, Set.of())) {
            if (!open.contains(next)) {
                List<String> found = longer(next, open);
                best = found.size() > best.size() ? found : best;
            }
        }
        open.remove(open.size() - 1);
        return best;
    }
}
