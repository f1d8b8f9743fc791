/** Sentences on frames and candidates: promises 11 to 16. */
final class FrameSentences extends Sentences {
    private FrameSentences() {
    }

    static void tell() {
        frames();
        diff();
        rel();
        loud();
        dips();
        dipsSideBySide();
        candidates();
        candidate();
        doubles();
        fine();
        bent();
    }

    private static void frames() {
        term("FRAME f STARTS at SAMPLE f times HOP; there are those for which START, WIDE, HIGH and 1 together are no more than SAMPLES.");
        PitchMarks p = new PitchMarks();
        p.noise(0, 44, 0);
        due("44, and 20, 24 and 1 together are 45", 0, p.count(1));
        p.noise(0, 1, 0);
        due("45", 1, p.count(1));
        p.noise(0, 9, 0);
        due("54, and a HOP is 10", 1, p.count(1));
        p.noise(0, 1, 0);
        due("55", 2, p.count(1));
        p.bound(2, 11);
        due("a HOP of 11", 1, p.count(1));
        p.bound(2, 10);
        p.bound(3, 21);
        due("WIDE by 1 more", 1, p.count(1));
        p.bound(3, 20);
        p.bound(5, 25);
        due("HIGH by 1 more", 1, p.count(1));
        p.bound(5, 24);
        due("as before", 2, p.count(1));
        PitchMarks starts = Signals.made(3);
        starts.cycles(48, 127, 1);
        starts.bound(3, 8);
        due("x(8) to x(15)", loudness(starts, 8, 8), starts.loud(1));
        starts.bound(2, 9);
        due("x(9) to x(16)", loudness(starts, 9, 8), starts.loud(1));
        starts.bound(3, 9);
        due("x(18) to x(26)", loudness(starts, 18, 9), starts.loud(2));
        PitchMarks most = Signals.pure(3, 16, 50, 50);
        due("most FRAMES", 100, most.count(1));
        due("the last one has UNVOICED", 500, most.candidate(99, most.candidates(99) - 1, 1));
        due("the same", most.path(99), most.bestAt(0, 99));
        most.cut(1);
        due("FRAMES", 99, most.count(1));
        PitchMarks fewest = new PitchMarks();
        fewest.cycles(16, 50, 50);
        fewest.bound(2, 40);
        fewest.bound(3, 60);
        fewest.bound(5, 48);
        due("691 by 40, and the first one", 18, fewest.count(1));
    }

    private static int loudness(PitchMarks p, int from, int n) {
        int sum = 0;
        for (int i = from; i < from + n; i++) {
            sum += Math.abs(p.sample(i));
        }
        return sum;
    }

    private static void diff() {
        term("DIFF of a FRAME at a lag L (0 to HIGH and 1): what x(START and i) is off x(START and i and L), for i from 0 to WIDE less 1, together.");
        PitchMarks p = Signals.plain();
        row("diff", all(7, lag -> p.diff(1, lag)), 0, 24, 32, 24, 0, 24, 32);
        PitchMarks silent = Signals.made(5);
        silent.noise(0, 30, 0);
        // FRAME 1 has 8 to 11, and at lag 6 also 14 to 17
        int[] seen = new int[12];
        for (int i = 0; i < 12; i++) {
            silent.poke(7 + i, -10);
            seen[i] = silent.diff(1, 6);
            silent.poke(7 + i, 0);
        }
        row("SAMPLES 7 to 18", seen, 0, 10, 10, 10, 10, 0, 0, 10, 10, 10, 10, 0);
        PitchMarks loudest = new PitchMarks();
        loudest.noise(0, 110, 0);
        for (int i = 0; i < 110; i++) {
            loudest.poke(i, i % 2 == 0 ? 127 : -128);
        }
        loudest.bound(3, 60);
        loudest.bound(5, 48);
        due("60 times 255", 15300, loudest.diff(0, 49));
        due("nothing", 0, loudest.diff(0, 48));
        // 1000 times 49 times 15300 by 25 times 15300
        due("REL of the greatest lag and DIFFS", 1960, loudest.rel(0, 49));
        promise(11, "NoSuchElementException: no such FRAME (as everywhere), lag.");
        for (int frame : outside(2)) {
            noSuch("diff(" + frame + ", 0)", () -> p.diff(frame, 0));
        }
        for (int lag : outside(7)) {
            noSuch("diff(0, " + lag + ")", () -> p.diff(0, lag));
        }
        noSuch("both", () -> p.diff(MAX, MAX));
        noSuch("of no FRAMES", () -> new PitchMarks().diff(0, 0));
        p.bound(5, 6);
        due("HIGH and 1", 24, p.diff(0, 7));
        p.bound(5, 3);
        noSuch("HIGH and 2", () -> p.diff(0, 5));
    }

    private static void rel() {
        term("REL: 1000 times L times DIFF at L by all DIFFS at 1 to L together (1000, if these are 0; 1000 at 0).");
        PitchMarks p = Signals.plain();
        row("rel, downwards", all(7, lag -> p.rel(0, lag)), 1000, 1000, 1142, 900, 0, 1153, 1411);
        PitchMarks two = Signals.two();
        row("of silence", all(7, lag -> two.rel(3, lag)), 1000, 1000, 1000, 1000, 1000, 1000, 1000);
        // FRAME 5 has silence up to lag 4, then the first 10
        row("of silence with an end", all(7, lag -> two.rel(5, lag)), 1000, 1000, 1000, 1000, 1000, 5000, 3692);
        row("its DIFFS", all(7, lag -> two.diff(5, lag)), 0, 0, 0, 0, 0, 10, 16);
        promise(12, "NoSuchElementException: also no such lag.");
        for (int lag : outside(7)) {
            noSuch("rel(0, " + lag + ")", () -> p.rel(0, lag));
        }
        for (int frame : outside(2)) {
            noSuch("rel(" + frame + ", 0)", () -> p.rel(frame, 0));
        }
        noSuch("of no FRAMES", () -> new PitchMarks().rel(0, 0));
    }

    private static void loud() {
        term("LOUD is a FRAME: x at its START and WIDE less 1 SAMPLES behind it, without their signs, together.");
        PitchMarks p = Signals.made(5);
        p.noise(0, 30, 0);
        int[] seen = new int[6];
        for (int i = 0; i < 6; i++) {
            p.poke(7 + i, i % 2 == 0 ? 127 : -128);
            seen[i] = p.loud(1);
            p.poke(7 + i, 0);
        }
        row("SAMPLES 7 to 12", seen, 0, 128, 127, 128, 127, 0);
        due("8 4 0 -4", 16, Signals.plain().loud(1));
        promise(13, "How LOUD. NoSuchElementException.");
        due("silence", 0, p.loud(2));
        for (int frame : outside(3)) {
            noSuch("loud(" + frame + ")", () -> p.loud(frame));
        }
        noSuch("of no FRAMES", () -> new PitchMarks().loud(0));
    }

    private static void dips() {
        term("A DIP lies at a lag L (LOW to HIGH) of a FRAME that is FLOOR LOUD or more");
        PitchMarks p = Signals.pure(6, 4, 8, 6);
        p.bound(4, 4);
        row("at LOW", all(2, i -> p.candidate(0, i, 0)), 4, 0);
        p.bound(4, 5);
        row("below LOW", all(p.candidates(0), i -> p.candidate(0, i, 0)), 0);
        p.bound(4, 2);
        p.bound(5, 4);
        row("at HIGH", all(2, i -> p.candidate(0, i, 0)), 4, 0);
        p.bound(5, 3);
        row("above HIGH", all(p.candidates(0), i -> p.candidate(0, i, 0)), 0);
        PitchMarks lowest = Signals.pure(3, 2, 60, 20);
        row("at a LOW of 2", all(2, i -> lowest.candidate(0, i, 0)), 2, 0);
        PitchMarks highest = Signals.pure(48, 48, 100, 3);
        highest.bound(4, 47);
        row("at a HIGH of 48", all(2, i -> highest.candidate(0, i, 0)), 48, 0);
        PitchMarks loud = Signals.plain();
        due("LOUD", 16, loud.loud(0));
        loud.bound(14, 16);
        due("as LOUD as FLOOR", 2, loud.candidates(0));
        loud.bound(14, 17);
        due("less LOUD than FLOOR", 1, loud.candidates(0));
        loud.bound(14, 2000);
        due("far less LOUD than FLOOR", 1, loud.candidates(0));
        term("if REL at L is DEEP or less");
        PitchMarks q = Signals.twice();
        due("rel(3, 4)", 47, q.rel(3, 4));
        q.bound(6, 47);
        row("as DEEP as 47", all(q.candidates(3), i -> q.candidate(3, i, 0)), 4, 8, 0);
        q.bound(6, 46);
        row("less DEEP than 47", all(q.candidates(3), i -> q.candidate(3, i, 0)), 8, 0);
        q.bound(6, 0);
        row("a DEEP of 0", all(q.candidates(3), i -> q.candidate(3, i, 0)), 8, 0);
    }

    private static void dipsSideBySide() {
        term("less than at L less 1, and no more than at L and 1.");
        // a single SAMPLE at START: all DIFFS from lag 1 on are 100
        PitchMarks one = Signals.told(Signals.made(5), 100, 0, 0, 0, 0, 0, 0, 0, 0, 0);
        one.bound(6, 2000);
        row("rel", all(7, lag -> one.rel(0, lag)), 1000, 1000, 1000, 1000, 1000, 1000, 1000);
        row("no more than at L less 1, but not less", all(one.candidates(0), i -> one.candidate(0, i, 0)), 0);
        PitchMarks like = Signals.made(6);
        like.noise(6432, 11, 10);
        due("at 5", 1, like.rel(0, 5) > 388 ? 1 : 0);
        due("at 6", 388, like.rel(0, 6));
        due("at 7", 388, like.rel(0, 7));
        row("as much at L and 1", all(like.candidates(0), i -> like.candidate(0, i, 0)), 6, 0);
        PitchMarks more = Signals.made(7);
        more.noise(6432, 12, 10);
        row("not also at 7, where it is the same", all(more.candidates(0), i -> more.candidate(0, i, 0)), 6, 0);
        PitchMarks falls = Signals.plain();
        falls.bound(5, 3);
        falls.bound(6, 2000);
        row("900 at 3, but 0 at 4", all(falls.candidates(0), i -> falls.candidate(0, i, 0)), 0);
    }

    private static void candidates() {
        term("CANDIDATES of a FRAME: at most BEST DIPS, those of least REL (of like ones the lesser lag), numbered from 0 on by lags, rising; "
                + "behind them UNVOICED, always.");
        PitchMarks like = Signals.pure(24, 4, 8, 10);
        int[][] due = {{4, 0}, {4, 8, 0}, {4, 8, 12, 0}, {4, 8, 12, 16, 0}, {4, 8, 12, 16, 20, 0}};
        for (int best = 1; best <= 5; best++) {
            like.bound(7, best);
            row("BEST of like ones: " + best, all(like.candidates(0), i -> like.candidate(0, i, 0)), due[best - 1]);
        }
        PitchMarks q = Signals.twice();
        q.bound(7, 1);
        row("the least REL, not the least lag", all(q.candidates(0), i -> q.candidate(0, i, 0)), 8, 0);
        q.bound(7, 2);
        row("by lags, not by REL", all(q.candidates(0), i -> q.candidate(0, i, 0)), 4, 8, 0);
        row("UNVOICED in silence", all(1, i -> Signals.two().candidate(4, i, 0)), 0);
        promise(14, "How many CANDIDATES (UNVOICED, too). NoSuchElementException.");
        due("silence", 1, Signals.two().candidates(4));
        due("one lag", 2, Signals.plain().candidates(0));
        due("most", 6, like.candidates(0));
        for (int frame : outside(2)) {
            noSuch("candidates(" + frame + ")", () -> Signals.plain().candidates(frame));
        }
        noSuch("of no FRAMES", () -> new PitchMarks().candidates(0));
    }

    private static void candidate() {
        term("Its OWN cost: REL and LEAN times the lag; of UNVOICED QUIET.");
        PitchMarks q = Signals.twice();
        q.bound(8, 3);
        row("OWN", all(3, i -> q.candidate(0, i, 1)), 47 + 12, 24, 500);
        q.bound(8, 0);
        q.bound(9, 0);
        row("nothing for lags, nothing for UNVOICED", all(3, i -> q.candidate(0, i, 1)), 47, 0, 0);
        q.bound(8, 20);
        q.bound(9, 2000);
        row("the most", all(3, i -> q.candidate(0, i, 1)), 47 + 80, 160, 2000);
        promise(15, "its lag (what 0; 0: UNVOICED), OWN cost (1), of which it is DOUBLE (2; NONE), how many of its FRAME cost less themselves (3).");
        q.bound(8, 3);
        q.bound(9, 500);
        row("lags", all(3, i -> q.candidate(0, i, 0)), 4, 8, 0);
        row("DOUBLE", all(3, i -> q.candidate(0, i, 2)), NONE, 0, NONE);
        row("cost less", all(3, i -> q.candidate(0, i, 3)), 1, 0, 2);
        q.bound(9, 24);
        row("of like ones none costs less", all(3, i -> q.candidate(0, i, 3)), 2, 0, 0);
        q.bound(9, 23);
        row("UNVOICED costs less", all(3, i -> q.candidate(0, i, 3)), 2, 1, 0);
        promise(15, "NoSuchElementException: also no such CANDIDATE, another what.");
        for (int i : outside(3)) {
            noSuch("candidate(0, " + i + ", 0)", () -> q.candidate(0, i, 0));
        }
        for (int what : outside(4)) {
            noSuch("candidate(0, 0, " + what + ")", () -> q.candidate(0, 0, what));
        }
        for (int frame : outside(4)) {
            noSuch("candidate(" + frame + ", 0, 0)", () -> q.candidate(frame, 0, 0));
        }
        q.cut(2);
        noSuch("of a FRAME that went", () -> q.candidate(3, 0, 0));
        noSuch("of a FRAME that went", () -> q.candidates(3));
        noSuch("of a FRAME that went", () -> q.diff(3, 0));
        noSuch("of no FRAMES", () -> new PitchMarks().candidate(0, 0, 0));
    }

    private static void doubles() {
        term("A CANDIDATE is DOUBLE, if its lag is off twice that of another one in its FRAME by 1 at most (of these the first: of which it is).");
        // that there are two of which it is can't be: DIPS are 2 apart at least, so twice them 4
        doubleIs(7, new int[] {4, 7, 0}, NONE, 0, NONE);
        doubleIs(26, new int[] {4, 8, 0}, NONE, 0, NONE);
        doubleIs(60, new int[] {4, 9, 0}, NONE, 0, NONE);
        doubleIs(54, new int[] {4, 6, 0}, NONE, NONE, NONE);
        doubleIs(13, new int[] {4, 10, 0}, NONE, NONE, NONE);
        doubleIs(99, new int[] {2, 4, 7, 0}, NONE, 0, 1, NONE);
        doubleIs(427, new int[] {3, 5, 7, 0}, NONE, 0, 0, NONE);
        doubleIs(347, new int[] {5, 9, 11, 0}, NONE, 0, 0, NONE);
        PitchMarks q = Signals.twice();
        q.bound(7, 1);
        row("the other one isn't a CANDIDATE", all(2, i -> q.candidate(0, i, 2)), NONE, NONE);
    }

    private static void doubleIs(int seed, int[] lags, int... of) {
        PitchMarks p = Signals.made(11);
        p.bound(6, 2000);
        p.bound(7, 5);
        p.noise(seed, 16, 5);
        row("lags of seed " + seed, all(p.candidates(0), i -> p.candidate(0, i, 0)), lags);
        row("DOUBLE of seed " + seed, all(p.candidates(0), i -> p.candidate(0, i, 2)), of);
    }

    private static void fine() {
        term("Its FINE lag: with a, b, c the DIFFS at its lag less 1, at it, at it and 1: its lag and (a less c) by twice (a less twice b and c)");
        PitchMarks p = Signals.twice();
        row("DIFFS at 3 to 9", all(7, i -> p.diff(0, 3 + i)), 25, 1, 24, 32, 24, 0, 25);
        // 4 and 1 by 94; 8 less 1 by 98
        due("above the line", 4 * 94 + 1, p.fine(0, 0, false));
        due("below it", 94, p.fine(0, 0, true));
        due("above the line", 8 * 98 - 1, p.fine(0, 1, false));
        due("below it", 98, p.fine(0, 1, true));
        promise(16, "The FINE lag of a CANDIDATE, in lowest terms, above the line (down false), below it (above 0).");
        due("a whole one", 4, Signals.plain().fine(1, 0, false));
        due("a whole one", 1, Signals.plain().fine(1, 0, true));
        PitchMarks even = Signals.told(Signals.made(5), 0, 0, 0, 100, 0, 0, 0, 98, 0, 0);
        row("DIFFS at 3 to 5", all(3, i -> even.diff(0, 3 + i)), 200, 2, 198);
        // 4 and 2 by 788
        due("lowest terms", 4 * 394 + 1, even.fine(0, 0, false));
        due("lowest terms", 394, even.fine(0, 0, true));
        PitchMarks below = bending(267, 127);
        row("DIFFS at 2 to 4", all(3, i -> below.diff(0, 2 + i)), 348, 402, 464);
        // 3 less 116 by 16
        due("below 0, above the line", -17, below.fine(0, 0, false));
        due("below 0, below the line", 4, below.fine(0, 0, true));
        promise(16, "NoSuchElementException: also no such CANDIDATE, it is UNVOICED.");
        for (boolean down : new boolean[] {false, true}) {
            noSuch("fine of UNVOICED", () -> p.fine(0, 2, down));
            for (int i : outside(3)) {
                noSuch("fine(0, " + i + ")", () -> p.fine(0, i, down));
            }
            for (int frame : outside(4)) {
                noSuch("fine(" + frame + ", 0)", () -> p.fine(frame, 0, down));
            }
            noSuch("of no FRAMES", () -> new PitchMarks().fine(0, 0, down));
            noSuch("UNVOICED alone", () -> Signals.two().fine(4, 0, down));
        }
        p.cut(2);
        noSuch("of a FRAME that went", () -> p.fine(3, 0, false));
    }

    /** DIFFS that bend the other way, or not at all, at a DIP of REL. */
    private static void bent() {
        int[][] rare = {{1298716, 2}, {5614571, 2}, {36387805, 127}, {139247696, 10}, {237657109, 10}, {5796708, 127}, {8568358, 127}};
        term("the lag, if that is 0.");
        int flat = 0;
        int other = 0;
        for (int[] r : rare) {
            PitchMarks p = bending(r[0], r[1]);
            for (int i = 0; i + 1 < p.candidates(0); i++) {
                if (belowTheLine(p, i) == 0) {
                    flat++;
                    due("the lag", p.candidate(0, i, 0), p.fine(0, i, false));
                    due("by 1", 1, p.fine(0, i, true));
                }
            }
        }
        due("some are flat", 1, flat > 0 ? 1 : 0);
        promise(16, "below it (above 0)");
        for (int[] r : rare) {
            PitchMarks p = bending(r[0], r[1]);
            for (int i = 0; i + 1 < p.candidates(0); i++) {
                other += belowTheLine(p, i) < 0 ? 1 : 0;
                inLowestTerms(p, i);
            }
        }
        due("some bend the other way", 1, other > 0 ? 1 : 0);
    }

    private static PitchMarks bending(int seed, int height) {
        PitchMarks p = Signals.made(10);
        p.noise(seed, 23, height);
        p.bound(6, 2000);
        p.bound(7, 5);
        return p;
    }

    private static int belowTheLine(PitchMarks p, int i) {
        int lag = p.candidate(0, i, 0);
        return 2 * (p.diff(0, lag - 1) - 2 * p.diff(0, lag) + p.diff(0, lag + 1));
    }

    private static void inLowestTerms(PitchMarks p, int i) {
        int lag = p.candidate(0, i, 0);
        int below = belowTheLine(p, i) == 0 ? 1 : belowTheLine(p, i);
        int above = belowTheLine(p, i) == 0 ? lag : lag * below + p.diff(0, lag - 1) - p.diff(0, lag + 1);
        int up = p.fine(0, i, false);
        int down = p.fine(0, i, true);
        due("above 0", 1, down > 0 ? 1 : 0);
        due("the same part", (long) above * down, (long) below * up);
        due("lowest terms", 1, java.math.BigInteger.valueOf(up).gcd(java.math.BigInteger.valueOf(down)).intValue());
    }
}
