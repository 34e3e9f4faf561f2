import java.io.File;
import java.io.PrintWriter;
import java.io.StringWriter;
import java.util.ArrayList;
import java.util.Arrays;
import java.util.HashMap;
import java.util.List;
import java.util.Map;
import java.util.Set;
import java.util.TreeMap;
import java.util.TreeSet;
import java.util.regex.Matcher;
import java.util.regex.Pattern;
import java.util.spi.ToolProvider;

/** The rules of LANGUAGE.md that the compiled class shows: what it calls, how deep, what it makes and where, how many fields a class has. */
public final class CallsTest {
    private static final int DEEPEST = 8;
    private static final int FIELDS_MOST = 20;
    private static final int CLASSES_MOST = 12;
    private static final Set<String> LIBRARY = new TreeSet<>(Arrays.asList("java/lang/Object.\"<init>\"", "java/lang/String.length", "java/lang/String.charAt",
            "java/lang/System.arraycopy", "java/lang/Math.abs", "java/lang/Math.max", "java/lang/Math.min",
            "java/lang/IndexOutOfBoundsException.\"<init>\"", "java/util/NoSuchElementException.\"<init>\""));
    private static final Set<String> THROWN = new TreeSet<>(Arrays.asList("java/lang/IndexOutOfBoundsException", "java/util/NoSuchElementException"));
    private static final Pattern METHOD = Pattern.compile("^  (?:[a-z]+ )*(?:[a-zA-Z$.\\[\\]]+ )?([a-zA-Z$]+)\\(.*\\).*;$");
    private static final Pattern CALL = Pattern.compile("invoke(\\w+) +#\\d+.*// (?:Interface)?Method ([^:]+):.*$");
    private static final Pattern MADE = Pattern.compile(": (new|newarray|anewarray|multianewarray) +(?:#\\d+.*// class )?(\\S+).*$");

    private static final Map<String, Set<String>> calls = new TreeMap<>();
    private static final Map<String, Integer> depths = new HashMap<>();
    private static int wrong = 0;

    private static void complain(String what) {
        wrong++;
        System.out.println(what);
    }

    public static void main(String[] args) {
        List<String> names = classes();
        if (names.isEmpty() || names.size() > CLASSES_MOST) {
            complain(names.size() + " classes");
        }
        for (String name : names) {
            read(name);
        }
        int deepest = 0;
        for (String method : calls.keySet()) {
            int depth = depth(method, new ArrayList<>());
            deepest = Math.max(deepest, depth);
            if (depth > DEEPEST) {
                complain(method + " goes " + depth + " calls deep");
            }
        }
        System.out.println(names.size() + " classes, " + calls.size() + " methods, at most " + deepest + " calls deep, " + wrong + " faults");
        if (wrong != 0 || deepest < 2) {
            System.exit(1);
        }
    }

    private static List<String> classes() {
        List<String> names = new ArrayList<>();
        for (String file : new File(System.getProperty("java.class.path")).list()) {
            if (file.matches("ShadowPool(\\$.*)?\\.class")) {
                names.add(file.substring(0, file.length() - 6));
            }
        }
        return names;
    }

    private static String shown(String name) {
        StringWriter out = new StringWriter();
        PrintWriter writer = new PrintWriter(out);
        ToolProvider.findFirst("javap").get().run(writer, writer, "-c", "-p", "-cp", System.getProperty("java.class.path"), name);
        return out.toString();
    }

    private static void read(String name) {
        int fields = 0;
        String method = null;
        for (String line : shown(name).split("\\R")) {
            Matcher head = METHOD.matcher(line);
            if (head.matches()) {
                // a constructor is shown by its class's name
                method = name + "." + (head.group(1).equals(name) ? "\"<init>\"" : head.group(1));
                calls.putIfAbsent(method, new TreeSet<>());
                checkName(name, head.group(1));
            } else if (line.matches("^  \\S.*;$") && !line.contains(" static ")) {
                fields++;
            } else if (line.contains("static {}")) {
                complain(name + " has a static initialiser");
            } else if (method != null) {
                readInstruction(name, method, line);
            }
        }
        if (fields > FIELDS_MOST) {
            complain(name + " has " + fields + " fields");
        }
    }

    /** No method of a class inside bears the name of a public one either. */
    private static void checkName(String name, String method) {
        boolean inFace = Arrays.stream(ShadowPool.class.getMethods()).anyMatch(m -> m.getDeclaringClass() == ShadowPool.class && m.getName().equals(method));
        if (inFace && !name.equals("ShadowPool")) {
            complain(name + "." + method + " bears the name of a public method");
        }
    }

    private static void readInstruction(String name, String method, String line) {
        Matcher call = CALL.matcher(line);
        if (call.find()) {
            String called = call.group(2).contains(".") ? call.group(2) : name + "." + call.group(2);
            if (!called.startsWith("ShadowPool") && !LIBRARY.contains(called)) {
                complain(method + " calls " + called);
            }
            calls.get(method).add(called);
        } else if (line.contains("invokedynamic") || line.contains("checkcast") || line.contains("Exception table")) {
            complain(method + ": " + line.trim());
        }
        Matcher made = MADE.matcher(line);
        if (made.find() && !method.endsWith("<init>\"") && !THROWN.contains(made.group(2))) {
            complain(method + " makes a " + made.group(2));
        }
    }

    private static int depth(String method, List<String> open) {
        if (open.contains(method)) {
            complain("recursion: " + open + " " + method);
            return 0;
        }
        Integer known = depths.get(method);
        if (known != null) {
            return known;
        }
        open.add(method);
        int depth = 0;
        for (String called : calls.getOrDefault(method, Set.of())) {
            depth = Math.max(depth, depth(called, open));
        }
        open.remove(method);
        depths.put(method, depth + 1);
        return depth + 1;
    }
}
