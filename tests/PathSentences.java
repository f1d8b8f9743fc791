import java.util.List;
import java.util.Random;

/** Sentences on paths: promises 17 to 28. */
final class PathSentences extends Sentences {
    private PathSentences() {
    }

    static void tell() {
        jumps();
        octaves();
        voice();
        order();
        orderOfAll();
        live();
        cost();
        pathAndLag();
        through();
        both();
        single();
        settles();
        best();
        bestAt();
        would();
        doubled();
        full();
    }

    private static void jumps() {
        term("between two lags JUMP for each 1 that they are apart");
        PitchMarks p = Signals.pure(6, 4, 8, 6);
        p.cycles(6, 9, 6);
        row("lag", all(7, p::lag), 4, 4, 4, 6, 6, 6, 6);
        due("2 apart", 20, p.cost(2));
        p.bound(10, 0);
        due("2 apart", 0, p.cost(2));
        p.bound(10, 50);
        due("2 apart", 100, p.cost(2));
        due("none apart", 0, Signals.plain().cost(2));
        PitchMarks down = Signals.ofLags(9, 4, 5);
        row("lag", all(3, down::lag), 9, 4, 5);
        due("5 apart, and 1", 60, down.cost(2));
    }

    private static void octaves() {
        term("and OCTAVE, if the greater one is twice the lesser one less 1, or more");
        octaveIs(4, 6, 0);
        octaveIs(4, 7, 150);
        octaveIs(4, 8, 150);
        octaveIs(4, 9, 150);
        octaveIs(3, 4, 0);
        octaveIs(3, 5, 150);
        octaveIs(3, 10, 150);
        octaveIs(6, 4, 0);
        octaveIs(7, 4, 150);
        octaveIs(9, 4, 150);
        octaveIs(5, 3, 150);
        octaveIs(2, 3, 150);
        octaveIs(4, 4, 0);
    }

    private static void octaveIs(int first, int second, int octave) {
        PitchMarks p = Signals.ofLags(first, second);
        row("lag", all(2, p::lag), first, second);
        due("OCTAVES from " + first + " to " + second, octave, p.cost(3));
    }

    private static void voice() {
        term("between a lag and UNVOICED VOICE");
        PitchMarks two = Signals.two();
        row("lag", all(9, two::lag), 4, 4, 4, 0, 0, 0, 5, 5, 5);
        due("the end of a voice, and a beginning", 400, two.cost(4));
        two.cut(30);
        due("the end of a voice", 200, two.cost(4));
        PitchMarks late = Signals.late();
        row("lag", all(5, late::lag), 0, 4, 4, 4, 4);
        due("the beginning of a voice", 150, late.cost(4));
        term("between two UNVOICED nothing");
        PitchMarks silent = Signals.made(5);
        silent.noise(0, 34, 0);
        row("silence", all(5, silent::cost), 4 * 500, 4 * 500, 0, 0, 0);
    }

    private static void order() {
        term("that costs less is ahead, of like ones that which has the lesser number of a CANDIDATE in the first FRAME in which they are unlike.");
        PitchMarks tie = Signals.plain();
        tie.bound(9, 16);
        tie.bound(12, 0);
        row("all cost the same", all(4, tie::best), 32, 32, 32, 32);
        row("of like PATHS the lesser numbers", all(2, tie::path), 0, 0);
        row("FRAME 0", all(4, k -> tie.bestAt(k, 0)), 0, 0, 1, 1);
        row("FRAME 1", all(4, k -> tie.bestAt(k, 1)), 0, 1, 0, 1);
        tie.bound(9, 15);
        row("what costs less", all(2, tie::path), 1, 1);
        PitchMarks many = Signals.pure(10, 4, 8, 10);
        many.bound(8, 0);
        many.bound(10, 0);
        many.bound(11, 0);
        for (int k = 0; k < 8; k++) {
            int rank = k;
            row("the PATHS count up", all(4, f -> many.bestAt(rank, f)), 0, k >> 2 & 1, k >> 1 & 1, k & 1);
        }
        // lag 4, then 9, and a jump costs more than to be UNVOICED: where that is, is told from the first FRAME
        PitchMarks p = Signals.pure(13, 4, 8, 6);
        int[][] bounds = {{8, 0}, {9, 50}, {10, 50}, {11, 2000}, {12, 0}, {7, 1}};
        for (int[] b : bounds) {
            p.bound(b[0], b[1]);
        }
        p.cycles(9, 45, 4);
        row("lags", all(p.count(1), f -> p.candidate(f, 0, 0)), 4, 4, 4, 9, 9, 9);
        row("cost the same", all(2, p::best), 50, 50);
        row("path", all(6, p::path), 0, 0, 0, 1, 0, 0);
        row("the next one", all(6, f -> p.bestAt(1, f)), 0, 0, 1, 0, 0, 0);
        due("of those up to FRAME 3 that with 0 in FRAME 2", 0, p.live(2, 1));
        due("and 1 in FRAME 3", 1, p.live(3, 0));
        PitchMarks early = Signals.ofLags(4, 9, 9);
        for (int[] b : bounds) {
            early.bound(b[0], b[1]);
        }
        row("at the first FRAMES", all(3, early::path), 0, 1, 0);
        row("the next one", all(3, f -> early.bestAt(1, f)), 1, 0, 0);
        term("THE PATH is the first one (none of any FRAMES: costs 0).");
        row("cost of no FRAMES", all(5, new PitchMarks()::cost), 0, 0, 0, 0, 0);
        due("cost(0)", p.best(0), p.cost(0));
        PitchMarks one = Signals.lone();
        one.bound(9, 79);
        due("one FRAME", 1, one.path(0));
        PitchMarks late = Signals.late();
        late.bound(9, 0);
        late.cut(26);
        row("its last FRAME is otherwise than the one ahead", all(2, late::path), 0, 1);
    }

    /** SIGNALS of five FRAMES in which many PATHS cost the same, and what all their PATHS are, one by one. */
    private static void orderOfAll() {
        for (int seed = 0; seed < 1500; seed++) {
            PitchMarks p = alike(seed);
            AllPaths each = new AllPaths(p);
            List<int[]> paths = each.inOrder(5);
            term("that costs less is ahead, of like ones that which has the lesser number of a CANDIDATE in the first FRAME in which they are unlike.");
            for (int k = 0; k < 8; k++) {
                int rank = k;
                due("best(" + k + ") of seed " + seed, k < paths.size() ? each.cost(paths.get(k)) : NONE, p.best(k));
                row("PATH " + k + " of seed " + seed, all(5, f -> p.bestAt(rank, f)), k < paths.size() ? paths.get(k) : new int[] {-1, -1, -1, -1, -1});
            }
            row("THE PATH of seed " + seed, all(5, p::path), paths.get(0));
            term("as if no more came.");
            for (int end = 0; end < 5; end++) {
                int last = end;
                row("LIVE up to " + end + " of seed " + seed, all(end + 1, f -> p.live(f, last - f)), each.inOrder(end + 1).get(0));
            }
            otherPaths(p, each, paths, seed);
        }
    }

    private static void otherPaths(PitchMarks p, AllPaths each, List<int[]> paths, int seed) {
        promise(22, "without any DOUBLE CANDIDATE");
        int single = MAX;
        int would = MAX;
        for (int[] path : paths) {
            single = each.hasDouble(path) ? single : Math.min(single, each.cost(path));
            would = Math.min(would, each.cost(path, seed % 90, seed % 70));
        }
        due("single of seed " + seed, single, p.single());
        promise(27, "What THE PATH would cost");
        due("would of seed " + seed, would, p.would(seed % 90, seed % 70));
        promise(20, "What the first of all PATHS through a CANDIDATE costs.");
        for (int f = 0; f < 5; f++) {
            for (int i = 0; i < p.candidates(f); i++) {
                due("through(" + f + ", " + i + ") of seed " + seed, leastOf(each, paths, f, i, f, i), p.through(f, i));
            }
        }
        promise(21, "What the first of all PATHS through two CANDIDATES");
        for (int later = 2; later < 5; later++) {
            for (int k = 0; k < p.candidates(later); k++) {
                due("both(1, 0, " + later + ", " + k + ") of seed " + seed, leastOf(each, paths, 1, 0, later, k), p.both(1, 0, later, k));
            }
        }
    }

    private static int leastOf(AllPaths each, List<int[]> paths, int f, int i, int later, int k) {
        int least = MAX;
        for (int[] path : paths) {
            least = path[f] == i && path[later] == k ? Math.min(least, each.cost(path)) : least;
        }
        return least;
    }

    /** Silence, noise that hardly differs from it, or cycles, in each FRAME; costs that are small or alike. */
    private static PitchMarks alike(int seed) {
        Random random = new Random(seed);
        PitchMarks p = Signals.made(6 + random.nextInt(5));
        int[][] bounds = {{6, 2000}, {7, 1 + random.nextInt(5)}, {8, random.nextInt(4) / 3}, {9, random.nextInt(3) * 10},
            {10, random.nextInt(3) * 10}, {11, random.nextInt(3) * 10}, {12, random.nextInt(4) * 10}};
        for (int[] b : bounds) {
            p.bound(b[0], b[1]);
        }
        while (p.count(0) < 60) {
            int kind = random.nextInt(4);
            int period = 2 + random.nextInt(5);
            if (kind == 0) {
                p.noise(seed, 6, random.nextInt(2));
            } else {
                p.cycles(period, 12, 1 + 16 / period);
            }
        }
        p.bound(5, 10);
        p.cut(p.count(0) - (4 * 8 + 4 + 10 + 1));
        return p;
    }

    private static void live() {
        term("LIVE by d of a FRAME: which CANDIDATE of it the first of all PATHS has that end at the d-th FRAME behind it "
                + "(at the last one, if there are not so many), as if no more came.");
        PitchMarks p = Signals.late();
        row("path", all(5, p::path), 0, 0, 0, 0, 0);
        due("alone it isn't worth it", 1, p.live(1, 0));
        due("with one more it is", 0, p.live(1, 1));
        due("behind others", 0, p.live(2, 0));
        row("at the last one", all(21, d -> p.live(4, d)), new int[21]);
        PitchMarks quiet = Signals.plain();
        quiet.bound(9, 0);
        row("of the last FRAME", all(21, d -> quiet.live(1, d)), all(21, d -> 1));
        row("of the first FRAME", all(21, d -> quiet.live(0, d)), all(21, d -> 1));
        PitchMarks q = Signals.longWait();
        due("one FRAME too few", 1, q.live(1, 19));
        due("enough", 0, q.live(1, 20));
        promise(23, "LIVE by d (0 to 20).");
        due("live(1, 0)", 1, q.live(1, 0));
        due("live(0, 20)", 0, q.live(0, 20));
        promise(23, "NoSuchElementException. IllegalArgumentException (behind that): d.");
        for (int d : outside(21)) {
            illegal("live(1, " + d + ")", () -> p.live(1, d));
            noSuch("live(5, " + d + ")", () -> p.live(5, d));
        }
        for (int frame : outside(5)) {
            noSuch("live(" + frame + ", 0)", () -> p.live(frame, 0));
        }
        noSuch("of no FRAMES", () -> new PitchMarks().live(0, 21));
    }

    private static void cost() {
        promise(17, "What THE PATH costs (what 0); of that OWN (1), JUMPS (2), OCTAVES (3), VOICE (4).");
        row("octave", all(5, Signals.octave()::cost), 266, 96, 20, 150, 0);
        row("two", all(5, Signals.two()::cost), 2008, 1608, 0, 0, 400);
        PitchMarks dear = Signals.pure(3, 16, 50, 50);
        dear.bound(9, 2000);
        dear.bound(6, 0);
        row("100 times UNVOICED", all(5, dear::cost), 200000, 200000, 0, 0, 0);
        promise(17, "NoSuchElementException: another what.");
        for (int what : outside(5)) {
            noSuch("cost(" + what + ")", () -> dear.cost(what));
            noSuch("cost(" + what + ") of no FRAMES", () -> new PitchMarks().cost(what));
        }
    }

    private static void pathAndLag() {
        promise(18, "Which CANDIDATE of a FRAME THE PATH has. NoSuchElementException.");
        PitchMarks p = Signals.two();
        row("path", all(9, p::path), 0, 0, 0, 0, 0, 0, 0, 0, 0);
        PitchMarks quiet = Signals.two();
        quiet.bound(9, 0);
        row("path", all(9, quiet::path), 1, 1, 1, 0, 0, 0, 1, 1, 1);
        for (int frame : outside(9)) {
            noSuch("path(" + frame + ")", () -> p.path(frame));
        }
        noSuch("path of no FRAMES", () -> new PitchMarks().path(0));
        promise(19, "The lag of THE PATH in a FRAME (0: UNVOICED). NoSuchElementException.");
        row("lag", all(9, p::lag), 4, 4, 4, 0, 0, 0, 5, 5, 5);
        row("lag", all(9, quiet::lag), 0, 0, 0, 0, 0, 0, 0, 0, 0);
        for (int frame : outside(9)) {
            noSuch("lag(" + frame + ")", () -> p.lag(frame));
        }
        noSuch("lag of no FRAMES", () -> new PitchMarks().lag(0));
        p.cut(5);
        noSuch("lag of a FRAME that went", () -> p.lag(8));
    }

    private static void through() {
        promise(20, "What the first of all PATHS through a CANDIDATE costs. NoSuchElementException: also no such CANDIDATE.");
        PitchMarks p = Signals.two();
        due("through THE PATH", 2008, p.through(0, 0));
        due("the first FRAME UNVOICED", 2008 - 16 + 500 + 200, p.through(0, 1));
        due("one in the middle UNVOICED", 2008 - 16 + 500 + 400, p.through(1, 1));
        due("the last one UNVOICED", 2008 - 20 + 500 + 200, p.through(8, 1));
        due("one FRAME in all", 500, Signals.lone().through(0, 1));
        for (int i : outside(2)) {
            noSuch("through(0, " + i + ")", () -> p.through(0, i));
        }
        noSuch("silence has one", () -> p.through(3, 1));
        for (int frame : outside(9)) {
            noSuch("through(" + frame + ", 0)", () -> p.through(frame, 0));
        }
        p.cut(5);
        noSuch("of a FRAME that went", () -> p.through(8, 0));
        noSuch("of no FRAMES", () -> new PitchMarks().through(0, 0));
    }

    private static void both() {
        promise(21, "What the first of all PATHS through two CANDIDATES of two FRAMES, the one ahead of the other, costs.");
        PitchMarks p = Signals.two();
        due("THE PATH", 2008, p.both(0, 0, 8, 0));
        due("the first and the last UNVOICED", 2008 - 16 - 20 + 1000 + 400, p.both(0, 1, 8, 1));
        due("side by side", 2008 - 32 + 1000 + 200, p.both(0, 1, 1, 1));
        due("with one between", 2008 - 32 + 1000 + 200, p.both(0, 1, 2, 1));
        due("one of each", 2008 - 16 + 500 + 400, p.both(1, 1, 2, 0));
        promise(21, "NoSuchElementException: also no such CANDIDATES.");
        for (int i : outside(2)) {
            noSuch("both(0, " + i + ", 1, 0)", () -> p.both(0, i, 1, 0));
            noSuch("both(0, 0, 1, " + i + ")", () -> p.both(0, 0, 1, i));
        }
        for (int frame : outside(9)) {
            noSuch("both(" + frame + ", 0, 1, 0)", () -> p.both(frame, 0, 1, 0));
            noSuch("both(0, 0, " + frame + ", 0)", () -> p.both(0, 0, frame, 0));
        }
        noSuch("of no FRAMES", () -> new PitchMarks().both(0, 0, 0, 0));
        PitchMarks less = Signals.two();
        due("the last FRAME", 2008, less.both(7, 0, 8, 0));
        less.cut(5);
        noSuch("of a FRAME that went", () -> less.both(7, 0, 8, 0));
        promise(21, "IllegalArgumentException (behind that): the second FRAME isn't behind the first.");
        illegal("the same", () -> p.both(1, 0, 1, 0));
        illegal("the same, another CANDIDATE", () -> p.both(1, 0, 1, 1));
        illegal("ahead", () -> p.both(2, 0, 1, 0));
        illegal("far ahead", () -> p.both(8, 0, 0, 0));
        noSuch("no first CANDIDATE", () -> p.both(1, 2, 1, 0));
        noSuch("no second CANDIDATE", () -> p.both(1, 0, 1, 2));
        noSuch("no second CANDIDATE", () -> p.both(2, 0, 1, 2));
        noSuch("no second FRAME", () -> p.both(2, 0, -1, 0));
    }

    private static void single() {
        promise(22, "What the first of all PATHS without any DOUBLE CANDIDATE costs.");
        PitchMarks p = Signals.twice();
        due("THE PATH has DOUBLE ones", 4, p.doubled());
        due("it costs", 0, p.cost(0));
        due("single", 4 * 47, p.single());
        p.bound(9, 40);
        due("UNVOICED is never DOUBLE", 160, p.single());
        due("of no FRAMES", 0, new PitchMarks().single());
        PitchMarks two = Signals.two();
        due("none is DOUBLE", two.cost(0), two.single());
    }

    private static void settles() {
        promise(24, "The least d (0 to 20) such that LIVE by it and by all greater ones up to 20 is the same. NoSuchElementException.");
        PitchMarks p = Signals.late();
        row("settles", all(5, p::settles), 0, 1, 0, 0, 0);
        p.bound(12, 250);
        row("settles", all(5, p::settles), 0, 2, 1, 0, 0);
        p.bound(12, 400);
        row("settles", all(5, p::settles), 0, 0, 0, 0, 0);
        PitchMarks q = Signals.longWait();
        due("the greatest d", 20, q.settles(1));
        due("the last but one", 19, q.settles(2));
        q.bound(12, 22);
        due("UNVOICED by all d up to 20", 0, q.settles(1));
        due("another one by 20 than by 19", 20, q.settles(2));
        for (int frame : outside(5)) {
            noSuch("settles(" + frame + ")", () -> p.settles(frame));
        }
        noSuch("of no FRAMES", () -> new PitchMarks().settles(0));
        PitchMarks back = Signals.made(10);
        back.bound(6, 2000);
        back.noise(22, 60, 5);
        row("LIVE by 0 to 4", all(5, d -> back.live(1, d)), 2, 1, 2, 2, 2);
        due("the same as by 0, but not by 1", 2, back.settles(1));
    }

    private static void best() {
        promise(25, "What the k-th of all PATHS (0 to 7; 0: THE PATH) costs");
        PitchMarks eight = Signals.pure(5, 4, 8, 7);
        // three FRAMES, each of 16 or 500; VOICE is 200
        row("eight PATHS", all(8, eight::best), 48, 732, 732, 932, 1216, 1216, 1416, 1500);
        due("0: THE PATH", eight.cost(0), eight.best(0));
        eight.bound(12, 0);
        row("asked again with another VOICE", all(8, eight::best), 48, 532, 532, 532, 1016, 1016, 1016, 1500);
        promise(25, "NONE: there are not so many. IllegalArgumentException: k.");
        PitchMarks p = Signals.plain();
        row("four PATHS", all(8, p::best), 32, 716, 716, 1000, NONE, NONE, NONE, NONE);
        PitchMarks one = Signals.made(5);
        one.noise(0, 10, 0);
        row("one PATH", all(8, one::best), 500, NONE, NONE, NONE, NONE, NONE, NONE, NONE);
        row("no FRAMES", all(8, new PitchMarks()::best), 0, NONE, NONE, NONE, NONE, NONE, NONE, NONE);
        for (int k : outside(8)) {
            illegal("best(" + k + ")", () -> p.best(k));
            illegal("best(" + k + ") of no FRAMES", () -> new PitchMarks().best(k));
        }
    }

    private static void bestAt() {
        promise(26, "Which CANDIDATE of a FRAME the k-th PATH has; NONE: there are not so many.");
        PitchMarks p = Signals.plain();
        row("FRAME 0", all(8, k -> p.bestAt(k, 0)), 0, 0, 1, 1, NONE, NONE, NONE, NONE);
        row("FRAME 1", all(8, k -> p.bestAt(k, 1)), 0, 1, 0, 1, NONE, NONE, NONE, NONE);
        PitchMarks eight = Signals.pure(5, 4, 8, 7);
        row("the last one of eight", all(3, f -> eight.bestAt(7, f)), 1, 1, 1);
        promise(26, "IllegalArgumentException: k. NoSuchElementException (behind that).");
        for (int k : outside(8)) {
            illegal("bestAt(" + k + ", 0)", () -> p.bestAt(k, 0));
            illegal("bestAt(" + k + ", 2)", () -> p.bestAt(k, 2));
            illegal("of no FRAMES", () -> new PitchMarks().bestAt(k, 0));
        }
        for (int frame : outside(2)) {
            noSuch("bestAt(0, " + frame + ")", () -> p.bestAt(0, frame));
            noSuch("bestAt(7, " + frame + "), where there are not so many", () -> p.bestAt(7, frame));
        }
        noSuch("of no FRAMES", () -> new PitchMarks().bestAt(0, 0));
        noSuch("of no FRAMES, nor so many PATHS", () -> new PitchMarks().bestAt(7, 0));
    }

    private static void would() {
        promise(27, "What THE PATH would cost, were OCTAVE and VOICE (0 to 2000) so. IllegalArgumentException: not as told.");
        PitchMarks p = Signals.octave();
        due("as they are", 266, p.would(150, 200));
        due("would(0, 2000)", 116, p.would(0, 2000));
        due("another PATH is first then", 96 - 20 + 500, p.would(2000, 0));
        due("would(2000, 2000)", 2116, p.would(2000, 2000));
        due("would(0, 0)", 116, p.would(0, 0));
        due("a DOUBLE one may be in it", 0, Signals.twice().would(0, 0));
        due("nothing changes", 266, p.cost(0));
        due("OCTAVE", 150, p.count(11));
        due("VOICE", 200, p.count(12));
        due("of no FRAMES", 0, new PitchMarks().would(0, 0));
        for (int other : new int[] {-1, 2001, MIN, MAX}) {
            illegal("would(" + other + ", 0)", () -> p.would(other, 0));
            illegal("would(0, " + other + ")", () -> p.would(0, other));
            illegal("of no FRAMES", () -> new PitchMarks().would(other, 0));
        }
    }

    private static void doubled() {
        promise(28, "In how many FRAMES THE PATH has a CANDIDATE that is DOUBLE.");
        PitchMarks p = Signals.twice();
        due("all", 4, p.doubled());
        p.bound(8, 20);
        due("none", 0, p.doubled());
        due("of no FRAMES", 0, new PitchMarks().doubled());
        p.bound(8, 0);
        p.bound(7, 1);
        due("without the half of it", 0, p.doubled());
    }

    /** THE SIGNAL has no room for more, and each FRAME as many CANDIDATES as can be. */
    private static void full() {
        PitchMarks p = Signals.mostCandidates();
        promise(14, "How many CANDIDATES (UNVOICED, too).");
        due("FRAMES", 99, p.count(1));
        row("six in each", all(99, p::candidates), all(99, f -> 6));
        promise(17, "What THE PATH costs (what 0)");
        due("99 times 8", 792, p.cost(0));
        promise(20, "What the first of all PATHS through a CANDIDATE costs.");
        due("the last FRAME UNVOICED", 98 * 8 + 500 + 200, p.through(98, 5));
        due("lag 10 in the last FRAME", 98 * 8 + 40 + 80 + 150, p.through(98, 4));
        promise(21, "What the first of all PATHS through two CANDIDATES");
        due("the first and the last UNVOICED", 97 * 8 + 1000 + 400, p.both(0, 5, 98, 5));
        due("lag 10 in the last two", 97 * 8 + 80 + 80 + 150, p.both(97, 4, 98, 4));
        promise(22, "What the first of all PATHS without any DOUBLE CANDIDATE costs.");
        due("2 is not DOUBLE", 792, p.single());
        promise(23, "LIVE by d (0 to 20).");
        due("of the last FRAME", 0, p.live(98, 20));
        promise(25, "What the k-th of all PATHS (0 to 7; 0: THE PATH) costs");
        // lag 4 at one end costs 8 and 20 and 150 more, lag 6 there 16 and 40 and 150
        row("the first eight", all(8, p::best), 792, 970, 970, 978, 978, 986, 986, 994);
        promise(26, "Which CANDIDATE of a FRAME the k-th PATH has");
        row("in the last FRAME", all(8, k -> p.bestAt(k, 98)), 0, 1, 0, 1, 0, 1, 0, 1);
        promise(27, "What THE PATH would cost");
        due("would(0, 0)", 792, p.would(0, 0));
        promise(28, "In how many FRAMES THE PATH has a CANDIDATE that is DOUBLE.");
        p.bound(4, 3);
        due("4, but 2 is none", 0, p.doubled());
        PitchMarks hundred = Signals.mostSpans();
        due("a hundred FRAMES", 0, hundred.doubled());
    }
}
