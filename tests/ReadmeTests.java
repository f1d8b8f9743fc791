import java.lang.reflect.InvocationTargetException;
import java.lang.reflect.Method;
import java.lang.reflect.Modifier;
import java.nio.file.Files;
import java.nio.file.Path;
import java.util.Set;
import java.util.TreeSet;
import java.util.regex.Matcher;
import java.util.regex.Pattern;

/** README.md says how the class is used: its example answers as told there, its tables are whole. */
public final class ReadmeTests {
    private static int wrong = 0;

    public static void main(String[] args) throws Exception {
        String page = Files.readString(Path.of("README.md"));
        exampleIsSo(page);
        everyCallIsNamed(page);
        boundsAreSo(page);
        everyTestIsNamed(page);
        System.out.println("ReadmeTests: " + wrong + " wrong");
        if (wrong != 0) {
            System.exit(1);
        }
    }

    private static void check(boolean right, String what) {
        if (!right) {
            wrong++;
            System.out.println(what);
        }
    }

    private static void exampleIsSo(String page) throws Exception {
        Matcher block = Pattern.compile("(?s)```java\n(.*?)```").matcher(page);
        check(block.find(), "there is no example");
        PitchMarks p = new PitchMarks();
        int calls = 0;
        for (String line : block.group(1).split("\n")) {
            Matcher call = Pattern.compile("^p\\.(\\w+)\\((.*?)\\); +// (-?\\w+)").matcher(line);
            if (call.find()) {
                calls++;
                String got = answer(p, call.group(1), call.group(2).isEmpty() ? new String[0] : call.group(2).split(", "));
                check(got.equals(call.group(3)), line + " .. is " + got);
            } else {
                check(line.equals("PitchMarks p = new PitchMarks();"), "not to be tried: " + line);
            }
        }
        check(calls > 20, "only " + calls + " calls in the example");
    }

    private static String answer(PitchMarks p, String name, String[] words) throws Exception {
        for (Method m : PitchMarks.class.getDeclaredMethods()) {
            if (m.getName().equals(name) && m.getParameterCount() == words.length) {
                Object[] a = new Object[words.length];
                for (int i = 0; i < a.length; i++) {
                    boolean truth = m.getParameterTypes()[i] == boolean.class;
                    a[i] = truth ? (Object) Boolean.valueOf(words[i]) : (Object) Integer.valueOf(words[i]);
                }
                try {
                    return m.invoke(p, a).toString();
                } catch (InvocationTargetException e) {
                    return e.getCause().getClass().getSimpleName();
                }
            }
        }
        return "no call " + name;
    }

    private static void everyCallIsNamed(String page) {
        Set<String> due = new TreeSet<>();
        for (Method m : PitchMarks.class.getDeclaredMethods()) {
            if (Modifier.isPublic(m.getModifiers())) {
                due.add(m.getName());
            }
        }
        Set<String> got = new TreeSet<>();
        Matcher rows = Pattern.compile("(?m)^\\| (`.*?) \\|").matcher(page);
        while (rows.find()) {
            for (String name : rows.group(1).split(", ")) {
                check(got.add(name.replace("`", "")), name + " is named twice");
            }
        }
        check(due.equals(got), "calls named are " + got + ", due are " + due);
    }

    private static void boundsAreSo(String page) {
        Matcher rows = Pattern.compile("(?m)^\\| (\\d+) \\| ([A-Z]+) \\| (\\d+) \\| (\\d+) \\| (\\d+) \\|").matcher(page);
        int next = 2;
        while (rows.find()) {
            int what = Integer.parseInt(rows.group(1));
            int from = Integer.parseInt(rows.group(3));
            int to = Integer.parseInt(rows.group(4));
            String name = rows.group(2);
            check(what == next, name + " has number " + what);
            next++;
            PitchMarks p = new PitchMarks();
            check(p.count(what) == Integer.parseInt(rows.group(5)), name + " at first is " + p.count(what));
            // out of each other's way
            p.bound(what == 4 ? 5 : 4, what == 4 ? 48 : 2);
            check(p.bound(what, from - 1) == PitchMarks.NOT && p.bound(what, to + 1) == PitchMarks.NOT, name + " goes farther");
            check(p.bound(what, from) != PitchMarks.NOT && p.bound(what, to) == from, name + " does not go so far");
        }
        check(next == 16, "BOUNDS up to " + (next - 1));
    }

    private static void everyTestIsNamed(String page) throws Exception {
        try (var files = Files.list(Path.of("tests"))) {
            files.map(f -> f.toString()).filter(f -> f.endsWith("Tests.java"))
                    .forEach(f -> check(page.contains("`" + f + "`"), f + " is not named"));
        }
    }
}
