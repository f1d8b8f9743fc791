import java.io.PrintWriter;
import java.io.StringWriter;
import java.lang.reflect.Array;
import java.lang.reflect.Field;
import java.lang.reflect.Modifier;
import java.nio.file.Files;
import java.nio.file.Path;
import java.util.ArrayList;
import java.util.HashSet;
import java.util.IdentityHashMap;
import java.util.List;
import java.util.Map;
import java.util.Set;
import java.util.TreeMap;
import java.util.TreeSet;
import java.util.regex.Matcher;
import java.util.regex.Pattern;
import java.util.spi.ToolProvider;
import java.util.stream.Stream;

/** LANGUAGE.md as far as the compiled class shows it: what it calls, how deep, what it makes and throws. */
public final class CodeTests {
    private static final int MOST_DEEP = 8;
    private static final int MOST_OBJECTS = 60;
    private static final int MOST_ELEMENTS = 40_000;
    private static final Set<String> LIBRARY = Set.of("java/lang/Object.<init>", "java/lang/Math.abs", "java/lang/Math.min",
            "java/lang/Math.max", "java/lang/Math.floorDiv", "java/util/NoSuchElementException.<init>",
            "java/lang/IllegalArgumentException.<init>");
    private static final Set<String> THROWERS = Set.of("PitchMarks.need:(Z)V", "PitchMarks.allow:(Z)V");
    /** Casts, doubles, lambdas, locks: rules 2, 3 and 6 leave none of what the class has no use for. */
    private static final Pattern NEVER = Pattern.compile("checkcast|instanceof|invokedynamic|invokeinterface|monitor.*|multianewarray"
            + "|[fd](add|sub|mul|div|rem|neg|load|store|const|return|aload|astore|cmp).*|i2[fd]|l2[fd]|putstatic");

    private static final Map<String, List<String>> code = new TreeMap<>();
    private static final Map<String, Set<String>> calls = new TreeMap<>();
    private static final Map<String, Integer> depths = new TreeMap<>();
    private static int wrong = 0;

    public static void main(String[] args) throws Exception {
        readCode();
        check(code.size() > 100, "only " + code.size() + " methods were read");
        code.forEach(CodeTests::keepsToTheRules);
        int deepest = 0;
        for (String method : code.keySet()) {
            deepest = Math.max(deepest, depth(method, new HashSet<>()));
        }
        check(deepest <= MOST_DEEP, "calls go " + deepest + " deep");
        roomIsSmall();
        System.out.println("CodeTests: " + code.size() + " methods, calls go " + deepest + " deep, " + wrong + " wrong");
        if (wrong != 0) {
            System.exit(1);
        }
    }

    private static void check(boolean right, String what) {
        if (!right) {
            wrong++;
            System.out.println(what);
        }
    }

    private static void readCode() throws Exception {
        Path root = Path.of(PitchMarks.class.getProtectionDomain().getCodeSource().getLocation().toURI());
        List<String> order = new ArrayList<>(List.of("-c", "-p", "-s"));
        try (Stream<Path> files = Files.list(root)) {
            files.filter(f -> f.getFileName().toString().matches("PitchMarks(\\$\\w+)?\\.class")).sorted()
                    .forEach(f -> order.add(f.toString()));
        }
        StringWriter told = new StringWriter();
        PrintWriter out = new PrintWriter(told);
        int end = ToolProvider.findFirst("javap").orElseThrow().run(out, out, order.toArray(new String[0]));
        check(end == 0, "javap ends with " + end);
        String owner = "";
        String name = "";
        List<String> here = new ArrayList<>();
        for (String line : told.toString().split("\n")) {
            Matcher head = Pattern.compile("^[a-z].*class (PitchMarks(\\$\\w+)?) ").matcher(line);
            Matcher method = Pattern.compile("^  .*?([\\w$]+)\\(.*;$").matcher(line);
            if (head.find()) {
                owner = head.group(1);
            } else if (line.equals("  static {};")) {
                name = "<clinit>";
            } else if (method.find()) {
                name = method.group(1).equals(owner) ? "<init>" : method.group(1);
            } else if (line.startsWith("    descriptor: ") && !name.isEmpty()) {
                here = new ArrayList<>();
                code.put(owner + "." + name + ":" + line.substring(16), here);
                name = "";
            } else {
                here.add(line.trim());
            }
        }
    }

    private static void keepsToTheRules(String method, List<String> lines) {
        boolean makes = method.contains(".<init>:") || method.contains(".<clinit>:");
        boolean throwsIt = THROWERS.contains(method);
        Set<String> called = calls.computeIfAbsent(method, key -> new TreeSet<>());
        String owner = method.substring(0, method.indexOf('.'));
        for (String line : lines) {
            Matcher part = Pattern.compile("^\\d+: (\\w+)(.*?)(?:// (?:Method|class) (\\S+))?$").matcher(line);
            check(!line.startsWith("Exception table"), method + " catches");
            if (!part.find()) {
                continue;
            }
            String what = part.group(1);
            check(makes && what.equals("putstatic") || !NEVER.matcher(what).matches(), method + " has " + what);
            check(!what.equals("athrow") || throwsIt, method + " throws by itself");
            check(!what.equals("new") && !what.endsWith("newarray") || makes || throwsIt, method + " makes " + line);
            if (what.startsWith("invoke")) {
                String target = part.group(3).replace("\"", "");
                called.add(target.startsWith("PitchMarks") || target.contains("/") ? target : owner + "." + target);
            }
        }
    }

    /** How many calls stand open at once, this one and the library's counted. */
    private static int depth(String method, Set<String> open) {
        if (!code.containsKey(method)) {
            check(LIBRARY.contains(method.replaceFirst(":.*", "")), "calls " + method);
            return 1;
        }
        if (depths.containsKey(method)) {
            return depths.get(method);
        }
        check(open.add(method), method + " calls itself");
        int deepest = 0;
        for (String next : calls.get(method)) {
            deepest = open.contains(next) ? Integer.MAX_VALUE - 1000 : Math.max(deepest, depth(next, open));
        }
        open.remove(method);
        depths.put(method, deepest + 1);
        return deepest + 1;
    }

    /** All objects of a run live in one room: one of them is small, and as large behind its last call as new. */
    private static void roomIsSmall() throws IllegalAccessException {
        PitchMarks p = new PitchMarks();
        int[] fresh = room(p);
        check(fresh[0] <= MOST_OBJECTS, "an object has " + fresh[0] + " objects and arrays");
        check(fresh[1] <= MOST_ELEMENTS, "an object has " + fresh[1] + " fields and elements");
        p.cycles(8, 100, 50);
        p.noise(1, 400, 100);
        p.tune(8);
        for (int i = 0; i < 500; i++) {
            p.poke(i, 0);
            p.anew(1, 2, i);
            p.best(7);
            p.match(0);
        }
        int[] used = room(p);
        check(used[0] == fresh[0] && used[1] == fresh[1], "an object grows");
    }

    private static int[] room(PitchMarks p) throws IllegalAccessException {
        Map<Object, Boolean> seen = new IdentityHashMap<>();
        List<Object> left = new ArrayList<>(List.of(p));
        int elements = 0;
        seen.put(p, true);
        while (!left.isEmpty()) {
            Object now = left.remove(left.size() - 1);
            if (now.getClass().isArray()) {
                elements += Array.getLength(now);
                continue;
            }
            for (Field f : now.getClass().getDeclaredFields()) {
                if (Modifier.isStatic(f.getModifiers())) {
                    continue;
                }
                elements++;
                f.setAccessible(true);
                Object held = f.getType().isPrimitive() ? null : f.get(now);
                if (held != null && seen.put(held, true) == null) {
                    left.add(held);
                }
            }
        }
        return new int[] {seen.size(), elements};
    }
}
