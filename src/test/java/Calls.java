import java.util.ArrayList;
import java.util.HashMap;
import java.util.LinkedHashMap;
import java.util.List;
import java.util.Map;
import java.util.regex.Matcher;
import java.util.regex.Pattern;

/** Which method calls which, by the text of the class: a call goes to each method of that name, super's to those above. */
final class Calls {
    private static final Pattern CLASS = Pattern.compile("^ {0,4}[a-z ]*\\bclass (\\w+)(?: extends (\\w+))? \\{$");
    private static final Pattern METHOD = Pattern.compile("^( {4}| {8})((?:[a-z]+ )*)[\\w\\[\\]]+ (\\w+)\\(.*\\) \\{$");
    private static final Pattern CALL = Pattern.compile("(\\bsuper\\.)?\\b(\\w+)\\(");

    private static final class Method {
        String owner, marks, name;
        final List<String> body = new ArrayList<>();
    }

    private final List<Method> methods = new ArrayList<>();
    private final Map<String, String> above = new HashMap<>();
    private final Map<Method, List<Method>> called = new LinkedHashMap<>();
    /** The longest row of calls that stand open at once, none twice. */
    List<String> deepest = List.of();
    /** Methods that call themselves, but aren't private and static. */
    final List<String> openRecursions = new ArrayList<>();

    Calls(String source) {
        read(source.replaceAll("(?s)/\\*.*?\\*/", " ").split("\n"));
        for (Method m : methods) called.put(m, callsOf(m));
        for (Method m : methods) {
            boolean may = m.marks.contains("private ") && m.marks.contains("static ");
            if (called.get(m).contains(m) && !may) openRecursions.add(m.owner + "." + m.name);
            if (m.marks.contains("public ")) follow(m, new ArrayList<>());
        }
    }

    private void read(String[] lines) {
        String owner = "";
        Method open = null;
        for (String line : lines) {
            Matcher c = CLASS.matcher(line), m = METHOD.matcher(line);
            if (c.matches()) {
                owner = c.group(1);
                if (c.group(2) != null) above.put(owner, c.group(2));
            } else if (m.matches() && !m.group(2).contains("else ")) {
                open = new Method();
                open.owner = owner;
                open.marks = m.group(2);
                open.name = m.group(3);
                methods.add(open);
            } else if (open != null) {
                open.body.add(line.replaceAll("//.*", ""));
            }
        }
    }

    private boolean isAbove(String owner, String that) {
        for (String up = above.get(that); up != null; up = above.get(up)) if (up.equals(owner)) return true;
        return false;
    }

    /** The nearest one above a class. */
    private Method fromSuper(Method m, String name) {
        Method nearest = null;
        for (Method other : methods) {
            boolean can = other.name.equals(name) && isAbove(other.owner, m.owner);
            if (can && (nearest == null || isAbove(nearest.owner, other.owner))) nearest = other;
        }
        return nearest;
    }

    private List<Method> callsOf(Method m) {
        List<Method> all = new ArrayList<>();
        for (String line : m.body) {
            Matcher call = CALL.matcher(line);
            while (call.find()) {
                if (call.group(1) != null) {
                    Method up = fromSuper(m, call.group(2));
                    if (up != null) all.add(up);
                } else {
                    for (Method other : methods) if (other.name.equals(call.group(2))) all.add(other);
                }
            }
        }
        return all;
    }

    private void follow(Method m, List<String> path) {
        String name = m.owner + "." + m.name;
        if (path.contains(name)) return;
        path.add(name);
        if (path.size() > deepest.size()) deepest = new ArrayList<>(path);
        for (Method next : called.get(m)) follow(next, path);
        path.remove(path.size() - 1);
    }
}
