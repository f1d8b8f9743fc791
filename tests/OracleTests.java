import java.lang.reflect.InvocationTargetException;
import java.lang.reflect.Method;
import java.util.Map;
import java.util.Random;
import java.util.TreeMap;

/** Random runs of calls, each asked of PitchMarks and of the slow Oracle. */
public final class OracleTests {
    private static final String[] CHANGES = {
        "feed", "samples", "cycles", "noise", "poke", "cut", "bound", "tune", "hush"
    };
    private static final int MOST_CALLS = 512;
    private static final Map<String, Integer> asked = new TreeMap<>();
    private static final Map<String, Integer> answered = new TreeMap<>();
    private static final Map<String, Method[]> methods = new TreeMap<>();
    private static int wrong = 0;

    public static void main(String[] args) throws Exception {
        int runs = args.length > 0 ? Integer.parseInt(args[0]) : 400;
        int seed = args.length > 1 ? Integer.parseInt(args[1]) : 1;
        for (Method m : PitchMarks.class.getDeclaredMethods()) {
            if (java.lang.reflect.Modifier.isPublic(m.getModifiers())) {
                Method o = Oracle.class.getMethod(m.getName(), m.getParameterTypes());
                o.setAccessible(true);
                methods.put(m.getName(), new Method[] {m, o});
            }
        }
        // seeds side by side would draw alike at first
        Random seeds = new Random(seed);
        for (int run = 0; run < runs && wrong < 20; run++) {
            oneRun(run, new Random(seeds.nextLong()));
        }
        for (String name : methods.keySet()) {
            if (answered.getOrDefault(name, 0) == 0) {
                wrong++;
                System.out.println(name + " was never answered");
            }
        }
        System.out.println("OracleTests: " + asked.values().stream().mapToInt(n -> n).sum() + " calls, " + wrong + " wrong");
        if (wrong != 0) {
            System.exit(1);
        }
    }

    private static void oneRun(int run, Random r) throws Exception {
        PitchMarks p = new PitchMarks();
        Oracle o = new Oracle();
        StringBuilder told = new StringBuilder();
        int kind = r.nextInt(8);
        boolean big = kind == 0;
        int left = MOST_CALLS;
        int before = wrong;
        left -= setBounds(run, r, p, o, told, big);
        if (kind >= 4) {
            left -= makeTies(run, r, p, o, told);
        } else if (kind == 1 && r.nextInt(3) == 0) {
            left -= fillUp(run, r, p, o, told);
        } else {
            int parts = 1 + r.nextInt(5);
            for (int i = 0; i < parts; i++) {
                left -= addPart(run, r, p, o, told, big ? 400 : 60);
            }
        }
        String[] names = methods.keySet().toArray(new String[0]);
        while (left-- > 0 && wrong == before) {
            String name = names[r.nextInt(names.length)];
            boolean changes = java.util.Arrays.asList(CHANGES).contains(name);
            if (!changes || r.nextInt(4) == 0) {
                ask(run, p, o, told, name, arguments(r, name, o));
            }
        }
    }

    private static int setBounds(int run, Random r, PitchMarks p, Oracle o, StringBuilder told, boolean big) throws Exception {
        int calls = 0;
        if (!big) {
            int[] small = {2, 8 + r.nextInt(8), 3, 4 + r.nextInt(10), 5, 5 + r.nextInt(16), 4, 2 + r.nextInt(3)};
            for (int i = 0; i < small.length; i += 2) {
                ask(run, p, o, told, "bound", small[i], small[i + 1]);
                calls++;
            }
        }
        for (int what = 6; what <= 15; what++) {
            if (r.nextInt(3) == 0) {
                ask(run, p, o, told, "bound", what, someBound(r, what));
                calls++;
            }
        }
        return calls;
    }

    /** Pure cycles cost nothing by themselves, and UNVOICED now and then no more than a jump: many PATHS are alike. */
    private static int makeTies(int run, Random r, PitchMarks p, Oracle o, StringBuilder told) throws Exception {
        int[] prices = {8, 0, 9, 10 * r.nextInt(6), 10, 10 * r.nextInt(6), 11, r.nextBoolean() ? 0 : 2000, 12, 10 * r.nextInt(3), 7, 5};
        for (int i = 0; i < prices.length; i += 2) {
            ask(run, p, o, told, "bound", prices[i], prices[i + 1]);
        }
        // with FRAMES that begin where cycles begin no dip is blurred
        boolean even = r.nextBoolean();
        int[] shape = even ? new int[] {2, 8, 3, 4, 4, 2, 5, 8 + r.nextInt(3), 7, 1 + r.nextInt(3)} : new int[0];
        for (int i = 0; i < shape.length; i += 2) {
            ask(run, p, o, told, "bound", shape[i], shape[i + 1]);
        }
        int parts = 2 + r.nextInt(8);
        for (int i = 0; i < parts; i++) {
            int period = even ? 2 << r.nextInt(3) : 2 + r.nextInt(9);
            int length = even ? 8 * (1 + r.nextInt(3)) : period + 8 + r.nextInt(16);
            ask(run, p, o, told, "cycles", period, 2 + r.nextInt(20), length / period);
        }
        return (prices.length + shape.length) / 2 + parts;
    }

    /** As many SAMPLES and FRAMES as there can be. */
    private static int fillUp(int run, Random r, PitchMarks p, Oracle o, StringBuilder told) throws Exception {
        ask(run, p, o, told, "bound", 2, 8);
        ask(run, p, o, told, "bound", 3, 4);
        ask(run, p, o, told, "bound", 4, 2);
        ask(run, p, o, told, "bound", 5, 3);
        int calls = 4;
        while (o.count(0) < 800) {
            int period = 2 + r.nextInt(3);
            if (o.count(0) > 790) {
                ask(run, p, o, told, "noise", r.nextInt(), 800 - o.count(0), 3);
            } else {
                ask(run, p, o, told, "cycles", period, r.nextInt(20), 1 + r.nextInt(8));
            }
            calls++;
        }
        return calls;
    }

    private static int someBound(Random r, int what) {
        int[] least = {0, 0, 8, 4, 2, 3, 0, 1, 0, 0, 0, 0, 0, 0, 0, 0};
        int[] most = {0, 0, 40, 60, 47, 48, 2000, 5, 20, 2000, 50, 2000, 2000, 20, 2000, 500};
        if (what < 2 || what > 15) {
            return r.nextInt(10);
        }
        switch (r.nextInt(6)) {
            case 0:
                return least[what];
            case 1:
                return most[what];
            case 2:
                return least[what] + r.nextInt(3) - 1;
            case 3:
                return most[what] + r.nextInt(3) - 1;
            default:
                return least[what] + r.nextInt(1 + (most[what] - least[what]) / (r.nextBoolean() ? 1 : 5));
        }
    }

    private static int addPart(int run, Random r, PitchMarks p, Oracle o, StringBuilder told, int room) throws Exception {
        switch (r.nextInt(4)) {
            case 0:
            case 1:
                int period = 2 + r.nextInt(14);
                ask(run, p, o, told, "cycles", period, r.nextInt(r.nextBoolean() ? 4 : 128), 1 + r.nextInt(1 + room / period) % 50);
                return 1;
            case 2:
                ask(run, p, o, told, "noise", r.nextInt(), 1 + r.nextInt(room), r.nextInt(r.nextBoolean() ? 4 : 128));
                return 1;
            default:
                ask(run, p, o, told, "feed", r.nextInt(), r.nextInt(), r.nextInt(), r.nextInt(), r.nextInt());
                ask(run, p, o, told, "samples", r.nextInt(21));
                return 2;
        }
    }

    /** Sizes come from the Oracle: a question to PitchMarks would make it find what it should find by itself. */
    private static Object[] arguments(Random r, String name, Oracle o) {
        Class<?>[] types = methods.get(name)[0].getParameterTypes();
        Object[] a = new Object[types.length];
        for (int i = 0; i < a.length; i++) {
            a[i] = types[i] == boolean.class ? (Object) r.nextBoolean() : (Object) argument(r, name, i, o);
        }
        if (name.equals("bound") && r.nextInt(10) != 0) {
            a[1] = someBound(r, (Integer) a[0]);
        }
        return a;
    }

    private static int argument(Random r, String name, int i, Oracle o) {
        if (r.nextInt(60) == 0) {
            int[] wild = {Integer.MIN_VALUE, Integer.MAX_VALUE, -1, -2, 800, 801, 1000000, Integer.MIN_VALUE + 1};
            return wild[r.nextInt(wild.length)];
        }
        int frames = Math.max(1, o.count(1));
        switch (name) {
            case "poke":
                return i == 0 ? r.nextInt(o.count(0) + 1) : r.nextInt(258) - 129;
            case "sample":
                return r.nextInt(o.count(0) + 1);
            case "cut":
                return r.nextInt(o.count(0) / (r.nextInt(4) == 0 ? 1 : 10) + 2);
            case "samples":
                return r.nextInt(o.count(16) + 2);
            case "feed":
                return r.nextInt();
            case "cycles":
                return i == 0 ? 1 + r.nextInt(20) : i == 1 ? r.nextInt(130) : r.nextInt(8);
            case "noise":
                return i == 0 ? r.nextInt() : i == 1 ? r.nextInt(50) : r.nextInt(130);
            case "bound":
                return i == 0 ? 1 + r.nextInt(16) : r.nextInt(100);
            case "diff":
            case "rel":
                return i == 0 ? r.nextInt(frames) : r.nextInt(o.count(5) + 3);
            case "candidate":
            case "through":
            case "both":
            case "fine":
                return i == 0 || name.equals("both") && i == 2 ? r.nextInt(frames + 1) : r.nextInt(5);
            case "bestAt":
                return i == 0 ? r.nextInt(9) : r.nextInt(frames + 1);
            case "live":
                return i == 0 ? r.nextInt(frames + 1) : r.nextInt(22);
            case "would":
                return r.nextInt(4) == 0 ? 0 : r.nextInt(2002);
            case "near":
            case "behind":
                return r.nextInt(o.count(0) + 20) - 10;
            case "mark":
            case "rough":
                return r.nextInt(o.marks() + 1);
            case "anew":
                return i == 2 ? r.nextInt(o.count(0) + 1) : 1 + r.nextInt(4) + (r.nextInt(40) == 0 ? 1 : 0);
            case "tune":
                return 1 + r.nextInt(20);
            case "matched":
                return r.nextInt(o.count(17) + 1);
            case "count":
                return r.nextInt(19);
            case "span":
                return i == 0 ? r.nextInt(o.spans() + 1) : r.nextInt(8);
            case "note":
                return i == 0 ? r.nextInt(o.notes() + 1) : r.nextInt(4);
            case "lagAt":
                return i == 0 ? r.nextInt(o.lags() + 1) : r.nextInt(3);
            case "best":
                return r.nextInt(9);
            case "loud":
            case "candidates":
            case "path":
            case "lag":
            case "settles":
                return r.nextInt(frames + 1);
            default:
                return r.nextInt(6);
        }
    }

    private static void ask(int run, PitchMarks p, Oracle o, StringBuilder told, String name, Object... a) throws Exception {
        Method[] both = methods.get(name);
        String due = answer(both[1], o, a);
        String got = answer(both[0], p, a);
        asked.merge(name, 1, Integer::sum);
        if (!due.startsWith("throws") && !due.equals("-1000")) {
            answered.merge(name, 1, Integer::sum);
        }
        told.append(name).append(java.util.Arrays.toString(a)).append(" = ").append(due).append("\n");
        if (!due.equals(got)) {
            wrong++;
            System.out.println("run " + run + ": " + name + java.util.Arrays.toString(a) + " answered " + got + ", due is " + due);
            if (wrong == 1) {
                System.out.println("the run:\n" + told);
            }
        }
    }

    private static String answer(Method m, Object on, Object[] a) throws Exception {
        try {
            return String.valueOf(m.invoke(on, a));
        } catch (InvocationTargetException e) {
            return "throws." + e.getCause().getClass().getSimpleName();
        }
    }
}
