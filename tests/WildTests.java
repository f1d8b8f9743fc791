import java.lang.reflect.InvocationTargetException;
import java.lang.reflect.Method;
import java.lang.reflect.Modifier;
import java.util.ArrayList;
import java.util.Comparator;
import java.util.List;
import java.util.Random;

/** Any arguments in any state, far beyond 512 calls: only what the document names is thrown. */
public final class WildTests {
    private static final int[] WILD = {Integer.MIN_VALUE, Integer.MIN_VALUE + 1, -1000, -128, -1, 0, 1, 2, 3, 4, 5, 7, 8, 12, 20,
        21, 40, 47, 48, 49, 50, 60, 99, 100, 101, 127, 128, 400, 799, 800, 801, 2000, 2001, Integer.MAX_VALUE - 1, Integer.MAX_VALUE};
    private static int wrong = 0;

    public static void main(String[] args) throws Exception {
        List<Method> calls = new ArrayList<>();
        for (Method m : PitchMarks.class.getDeclaredMethods()) {
            if (Modifier.isPublic(m.getModifiers())) {
                calls.add(m);
            }
        }
        calls.sort(Comparator.comparing(Method::getName));
        Random r = new Random(49);
        for (int run = 0; run < 150; run++) {
            PitchMarks p = new PitchMarks();
            fill(p, run % 5);
            for (int i = 0; i < 3000; i++) {
                Method m = calls.get(r.nextInt(calls.size()));
                if (m.getName().equals("cut") && r.nextInt(10) != 0) {
                    continue;
                }
                call(p, m, r);
            }
        }
        System.out.println("WildTests: " + wrong + " wrong");
        if (wrong != 0) {
            System.exit(1);
        }
    }

    /** The states of most FRAMES, most CANDIDATES, widest windows, most MARKS, and none of anything. */
    private static void fill(PitchMarks p, int kind) {
        if (kind == 0) {
            return;
        }
        p.bound(2, 8);
        p.bound(4, 2);
        p.bound(kind == 1 ? 3 : 7, kind == 1 ? 4 : 5);
        p.bound(5, kind == 1 ? 3 : 48);
        p.bound(6, 2000);
        if (kind == 2) {
            p.bound(3, 60);
        }
        if (kind == 3) {
            p.noise(7, 400, 127);
            p.noise(8, 400, 3);
        } else {
            p.cycles(2, 127, 50);
            p.cycles(7, 50, 50);
            p.cycles(3, 50, 50);
            p.cycles(2, 20, 50);
            p.cycles(5, 20, 20);
        }
        for (int i = 0; i < 12; i++) {
            p.tune(2 + i);
        }
    }

    private static void call(PitchMarks p, Method m, Random r) throws Exception {
        Class<?>[] types = m.getParameterTypes();
        Object[] a = new Object[types.length];
        for (int i = 0; i < a.length; i++) {
            int wild = r.nextInt(20) == 0 ? r.nextInt() : WILD[r.nextInt(WILD.length)];
            a[i] = types[i] == boolean.class ? (Object) r.nextBoolean() : (Object) wild;
        }
        try {
            m.invoke(p, a);
        } catch (InvocationTargetException e) {
            if (!List.of(m.getExceptionTypes()).contains(e.getCause().getClass())) {
                wrong++;
                System.out.println(m.getName() + java.util.Arrays.toString(a) + " throws " + e.getCause());
            }
        }
    }
}
