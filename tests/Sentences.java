import java.io.IOException;
import java.nio.file.Files;
import java.nio.file.Path;
import java.util.LinkedHashMap;
import java.util.Map;
import java.util.NoSuchElementException;
import java.util.TreeMap;
import java.util.regex.Matcher;
import java.util.regex.Pattern;
import java.util.function.IntUnaryOperator;
import java.util.stream.IntStream;

/** Sentences of the document, each told word for word, and the answers that are due if it holds. */
abstract class Sentences {
    static final int NONE = -1;
    static final int NOT = -1000;
    static final int MIN = Integer.MIN_VALUE;
    static final int MAX = Integer.MAX_VALUE;
    private static final Path DOCUMENT = Path.of("../shared/DOC.md");
    /** Words by which a sentence of the document names a boundary case. */
    private static final Pattern BOUNDARY = Pattern.compile("NOT\\b|NONE\\b|NoSuchElementException|IllegalArgumentException"
            + "|at most|at least|at first|no more|no farther|or more|or less|[Nn]one\\b|empty|-?\\d+ to -?\\d+|of like ones|of two"
            + "|wraps|below 0|less than|not so many|isn't|always|all greater|each for itself|lowest terms|if these are 0|if that is 0"
            + "|as many as can be|as long as|single one|no SAMPLE|any number|not on it|No SAMPLES|any FRAMES|downwards");
    private static final Map<String, Told> ALL = new LinkedHashMap<>();
    private static Told now;
    private static int asked = 0;
    private static int wrong = 0;

    interface Call {
        int get();
    }

    private static final class Told {
        final String section;
        final String words;
        int answers;

        Told(String section, String words) {
            this.section = section;
            this.words = words;
        }

        @Override
        public String toString() {
            return section + ", \"" + words + "\"";
        }
    }

    Sentences() {
    }

    /** What is asked from here on is due by these words of the section Terms, or What it is. */
    static void term(String words) {
        tell("Terms", words);
    }

    static void head(String words) {
        tell("What it is", words);
    }

    static void promise(int number, String words) {
        tell("Promise " + number, words);
    }

    private static void tell(String section, String words) {
        now = ALL.computeIfAbsent(section + words, key -> new Told(section, words));
    }

    static void due(String call, long want, long got) {
        count();
        if (want != got) {
            wrong(call + " is " + got + ", due is " + want);
        }
    }

    /** One answer for each argument from 0 on. */
    static void row(String call, int[] got, int... want) {
        due(call + ": how many", want.length, got.length);
        for (int i = 0; i < want.length && i < got.length; i++) {
            due(call + " at " + i, want[i], got[i]);
        }
    }

    static int[] all(int n, IntUnaryOperator of) {
        return IntStream.range(0, n).map(of).toArray();
    }

    static void noSuch(String call, Call it) {
        thrown(call, it, NoSuchElementException.class);
    }

    static void illegal(String call, Call it) {
        thrown(call, it, IllegalArgumentException.class);
    }

    /** Numbers that are no index of a row so long. */
    static int[] outside(int length) {
        return new int[] {-1, length, length + 1, MIN, MAX};
    }

    /** A call that answers NOT or NONE or throws leaves all that can be asked as it is. */
    static void refused(String call, PitchMarks p, int want, Call it) {
        String old = Signals.state(p);
        due(call, want, it.get());
        due(call + " changes nothing", 1, old.equals(Signals.state(p)) ? 1 : 0);
    }

    private static void thrown(String call, Call it, Class<?> want) {
        count();
        String got;
        try {
            got = "" + it.get();
        } catch (RuntimeException e) {
            got = e.getClass() == want ? "" : e.toString();
        }
        if (!got.isEmpty()) {
            wrong(call + " should throw " + want.getSimpleName() + ", but: " + got);
        }
    }

    private static void count() {
        asked++;
        now.answers++;
    }

    private static void wrong(String what) {
        wrong++;
        System.out.println(now + ": " + what);
    }

    /** The words stand in the document, something was asked for each, and none of its boundary cases was left out. */
    static boolean finish() throws IOException {
        Map<String, String> sections = sections();
        Map<String, boolean[]> told = new TreeMap<>();
        sections.forEach((name, text) -> told.put(name, new boolean[text.length()]));
        for (Told t : ALL.values()) {
            String text = sections.getOrDefault(t.section, "");
            int at = text.indexOf(t.words);
            if (at < 0 || t.answers == 0) {
                complain(t + (at < 0 ? " is not in the document" : " has no answer"));
            }
            for (int i = Math.max(0, at); i < at + t.words.length() && at >= 0; i++) {
                told.get(t.section)[i] = true;
            }
        }
        sections.forEach((name, text) -> findLeftOut(name, text, told.get(name)));
        System.out.println("SentenceTests: " + ALL.size() + " sentences, " + asked + " answers, " + wrong + " wrong");
        return wrong == 0;
    }

    private static void findLeftOut(String name, String text, boolean[] told) {
        Matcher word = BOUNDARY.matcher(text);
        while (word.find()) {
            if (!told[word.start()] || !told[word.end() - 1]) {
                complain(name + ": no test tells of: .." + text.substring(Math.max(0, word.start() - 40), Math.min(text.length(), word.end() + 40)));
            }
        }
        boolean any = false;
        for (boolean t : told) {
            any |= t;
        }
        if (!any) {
            complain(name + " has no test");
        }
    }

    private static void complain(String what) {
        wrong++;
        System.out.println(what);
    }

    /** The text of the head, of Terms and of each promise, without signatures, with one blank between words. */
    private static Map<String, String> sections() throws IOException {
        Map<String, String> found = new TreeMap<>();
        for (String part : Files.readString(DOCUMENT).split("(?m)^## ")) {
            String name = part.lines().findFirst().orElse("");
            if (name.equals("What it is") || name.equals("Terms") || name.startsWith("Promise ")) {
                String text = part.substring(name.length()).replaceAll("(?m)^Ahead of the calls.*$|^```.*$", " ");
                text = text.replaceAll("\\s+", " ").replaceFirst("^ `[^`]*`: ", "");
                found.put(name.replaceFirst(":.*", ""), text);
            }
        }
        if (found.size() != 51) {
            complain("the document has " + found.size() + " sections of promises and terms");
        }
        return found;
    }
}
