import java.io.PrintWriter;
import java.io.StringWriter;
import java.util.ArrayList;
import java.util.List;
import java.util.Map;
import java.util.Set;
import java.util.TreeMap;
import java.util.TreeSet;
import java.util.regex.Matcher;
import java.util.regex.Pattern;
import java.util.spi.ToolProvider;

/** LANGUAGE.md 11: calls that are no recursion go at most eight deep. Seen from the compiled classes. */
public final class DepthTest {
    private static final int MOST_DEEP = 8;
    private static final Due due = new Due("DepthTest");
    private static final Map<String, Set<String>> calls = new TreeMap<>();
    private static final Set<String> withCode = new TreeSet<>();

    public static void main(String[] args) {
        List<Class<?>> classes = new ArrayList<>(List.of(GrownPost.class.getDeclaredClasses()));
        classes.add(GrownPost.class);
        for (Class<?> one : classes) {
            learnCalls(one);
        }
        for (Class<?> one : classes) {
            addOverriding(one);
        }
        int faces = 0;
        for (String method : calls.keySet()) {
            if (method.startsWith("GrownPost.")) {
                faces++;
                List<String> way = deepest(method, new ArrayList<>());
                due.is(String.join(" > ", way) + ": deeper than eight", way.size() > MOST_DEEP, false);
            }
        }
        due.is("methods of the class itself", faces > 53, true);
        due.is("law() goes deeper than six", deepest("GrownPost.law", new ArrayList<>()).size() > 6, true);
        due.close();
    }

    /** Reads which of the program's own methods a class's methods call. */
    private static void learnCalls(Class<?> one) {
        Matcher line = Pattern.compile("^  \\S.*?([\\w$]+)\\([^)]*\\).*;$|^    (Code:)$|"
                + "// (?:Interface)?Method (?:([\\w$]+)\\.)?\"?([\\w<>]+)\"?:", Pattern.MULTILINE).matcher(disassembled(one));
        String method = "";
        while (line.find()) {
            if (line.group(1) != null) {
                method = one.getName() + "." + line.group(1);
                calls.putIfAbsent(method, new TreeSet<>());
            } else if (line.group(2) != null) {
                withCode.add(method);
            } else {
                String owner = line.group(3) == null ? one.getName() : line.group(3);
                calls.get(method).add(owner + "." + line.group(4).replace("<init>", owner));
            }
        }
    }

    private static String disassembled(Class<?> one) {
        StringWriter text = new StringWriter();
        PrintWriter out = new PrintWriter(text);
        int failed = ToolProvider.findFirst("javap").orElseThrow().run(out, out,
                "-p", "-c", "-cp", System.getProperty("java.class.path"), one.getName());
        due.is("javap of " + one.getName(), failed, 0);
        return text.toString();
    }

    /** A method of a class above may be answered below it, and one below be found above. */
    private static void addOverriding(Class<?> one) {
        if (one.getSuperclass() == Object.class || one.getSuperclass() == null) {
            return;
        }
        String above = one.getSuperclass().getName() + ".";
        String below = one.getName() + ".";
        for (String method : List.copyOf(calls.keySet())) {
            String name = method.substring(method.indexOf('.') + 1);
            if (method.startsWith(above)) {
                calls.get(method).add(below + name);
                calls.putIfAbsent(below + name, Set.of(method));
            }
        }
    }

    /** The longest way of calls on which no method comes twice; a method without code of its own only leads on. */
    private static List<String> deepest(String method, List<String> way) {
        List<String> longest = new ArrayList<>(way);
        if (withCode.contains(method)) {
            longest.add(method);
        }
        List<String> here = List.copyOf(longest);
        for (String next : calls.getOrDefault(method, Set.of())) {
            if (!here.contains(next)) {
                List<String> further = deepest(next, here);
                longest = further.size() > longest.size() ? further : longest;
            }
        }
        return longest;
    }
}
