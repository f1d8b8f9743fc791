import java.lang.reflect.Constructor;
import java.lang.reflect.Field;
import java.lang.reflect.Method;
import java.lang.reflect.Modifier;
import java.nio.file.Files;
import java.nio.file.Path;
import java.util.HashSet;
import java.util.Set;
import java.util.TreeSet;
import java.util.regex.Matcher;
import java.util.regex.Pattern;

/** The face is the document's, and the source keeps to what can be seen of LANGUAGE.md from outside. */
public final class FaceTests {
    private static int wrong = 0;

    public static void main(String[] args) throws Exception {
        faceIsTheDocuments();
        nothingElseIsSeen();
        sourceKeepsToTheRules();
        System.out.println("FaceTests: " + wrong + " wrong");
        if (wrong != 0) {
            System.exit(1);
        }
    }

    private static void check(boolean right, String what) {
        if (!right) {
            wrong++;
            System.out.println(what);
        }
    }

    private static void faceIsTheDocuments() throws Exception {
        Set<String> due = new TreeSet<>();
        Matcher lines = Pattern.compile("public (int \\w+\\(.*?\\).*?);").matcher(Files.readString(Path.of("../shared/DOC.md")));
        while (lines.find()) {
            due.add(lines.group(1).replaceAll("(int|boolean) \\w+(?=[,)])", "$1"));
        }
        Set<String> got = new TreeSet<>();
        for (Method m : PitchMarks.class.getDeclaredMethods()) {
            if (Modifier.isPublic(m.getModifiers())) {
                got.add(told(m));
            }
        }
        check(due.size() == 48, "the document has " + due.size() + " calls");
        check(due.equals(got), "the face is " + got + ", due is " + due);
        check(PitchMarks.NONE == -1 && PitchMarks.NOT == -1000, "the constants");
        check(Modifier.isFinal(PitchMarks.class.getModifiers()), "the class is final");
    }

    private static String told(Method m) {
        StringBuilder s = new StringBuilder(m.getReturnType().getName()).append(" ").append(m.getName()).append("(");
        for (Class<?> p : m.getParameterTypes()) {
            s.append(s.charAt(s.length() - 1) == '(' ? "" : ", ").append(p.getName());
        }
        s.append(")");
        for (Class<?> e : m.getExceptionTypes()) {
            s.append(s.indexOf("throws") < 0 ? " throws " : ", ").append(e.getSimpleName());
        }
        return s.toString();
    }

    private static void nothingElseIsSeen() {
        Set<String> open = new HashSet<>();
        for (Method m : PitchMarks.class.getDeclaredMethods()) {
            if (Modifier.isPublic(m.getModifiers())) {
                open.add(m.getName());
            } else {
                check(Modifier.isPrivate(m.getModifiers()), m.getName() + " is not private");
            }
        }
        for (Field f : PitchMarks.class.getDeclaredFields()) {
            boolean constant = f.getName().equals("NONE") || f.getName().equals("NOT");
            check(constant || Modifier.isPrivate(f.getModifiers()), f.getName() + " is not private");
        }
        for (Constructor<?> c : PitchMarks.class.getDeclaredConstructors()) {
            check(Modifier.isPublic(c.getModifiers()) && c.getParameterCount() == 0, "the constructor");
        }
        Class<?>[] inside = PitchMarks.class.getDeclaredClasses();
        check(inside.length < 12, inside.length + " classes inside");
        privateNamesDiffer(PitchMarks.class, open);
        for (Class<?> c : inside) {
            check(Modifier.isStatic(c.getModifiers()), c.getName() + " is not static");
            privateNamesDiffer(c, open);
            fieldsAreFew(c);
        }
        fieldsAreFew(PitchMarks.class);
    }

    private static void privateNamesDiffer(Class<?> c, Set<String> open) {
        for (Method m : c.getDeclaredMethods()) {
            boolean face = c == PitchMarks.class && Modifier.isPublic(m.getModifiers());
            check(face || !open.contains(m.getName()), c.getName() + " has a method " + m.getName() + " of its own");
            check(m.getParameterCount() <= 7, m.getName() + " takes too much");
        }
    }

    private static void fieldsAreFew(Class<?> c) {
        int fields = 0;
        for (Field f : c.getDeclaredFields()) {
            fields += Modifier.isStatic(f.getModifiers()) ? 0 : 1;
            check(!Modifier.isStatic(f.getModifiers()) || Modifier.isFinal(f.getModifiers()), f.getName() + " is not final");
        }
        check(fields <= 20, c.getName() + " has " + fields + " fields");
    }

    private static void sourceKeepsToTheRules() throws Exception {
        String source = Files.readString(Path.of("src/main/java/PitchMarks.java"));
        String[] never = {"->", "::", "Exact", "catch", "finally", "synchronized", "assert", "System.", "package ", "\"\"\"",
            "Random", "Thread", "static {", "instanceof"};
        for (String word : never) {
            check(!source.contains(word), "the source has " + word);
        }
        Matcher imports = Pattern.compile("(?m)^import (.*);$").matcher(source);
        while (imports.find()) {
            check(imports.group(1).equals("java.util.NoSuchElementException"), "imports " + imports.group(1));
        }
        Matcher made = Pattern.compile("throw new (\\w+)").matcher(source);
        while (made.find()) {
            check(made.group(1).matches("NoSuchElementException|IllegalArgumentException"), "throws " + made.group(1));
        }
        check(source.chars().allMatch(c -> c == '\n' || c >= 32 && c < 127), "signs beyond 127");
        methodsAreShort(source.split("\n"));
        rowsAreMadeInConstructors(source.split("\n"));
    }

    private static void methodsAreShort(String[] lines) {
        int start = -1;
        String end = "";
        for (int i = 0; i < lines.length; i++) {
            Matcher head = Pattern.compile("^( {4}| {8})[A-Za-z][^=;]*\\) .*\\{$").matcher(lines[i]);
            if (head.find() && start < 0) {
                start = i;
                end = head.group(1) + "}";
            } else if (start >= 0 && lines[i].equals(end)) {
                check(i - start < 60, "a method of " + (i - start) + " lines: " + lines[start]);
                start = -1;
            }
        }
    }

    /** All calls of a run live in one room, so that no call may make a row. */
    private static void rowsAreMadeInConstructors(String[] lines) {
        for (String line : lines) {
            check(!line.contains("new int[") && !line.contains("new boolean[") || line.contains("private final"), "makes a row: " + line);
        }
    }
}
