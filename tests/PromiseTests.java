import java.util.NoSuchElementException;

/** Each promise by itself: ordinary inputs, the edges that the document names, wrong inputs. */
public final class PromiseTests {
    private static final int NONE = -1;
    private static final int NOT = -1000;
    private static final int MIN = Integer.MIN_VALUE;
    private static final int MAX = Integer.MAX_VALUE;
    private static int promise = 0;
    private static int asked = 0;
    private static int wrong = 0;

    interface Call {
        int get();
    }

    public static void main(String[] args) {
        theSignal();
        bounds();
        frames();
        paths();
        otherPaths();
        spansAndNotes();
        lagsAndTunes();
        marks();
        gapsAndAnew();
        System.out.println("PromiseTests: " + asked + " answers, " + wrong + " wrong");
        if (wrong != 0) {
            System.exit(1);
        }
    }

    private static void due(String what, long want, long got) {
        asked++;
        if (want != got) {
            wrong++;
            System.out.println("promise " + promise + ": " + what + " is " + got + ", due is " + want);
        }
    }

    /** One answer for each argument from 0 on. */
    private static void row(String what, int[] got, int... want) {
        due(what + ": how many", want.length, got.length);
        for (int i = 0; i < want.length && i < got.length; i++) {
            due(what + " at " + i, want[i], got[i]);
        }
    }

    private static void noSuch(String what, Call call) {
        thrown(what, call, NoSuchElementException.class);
    }

    private static void illegal(String what, Call call) {
        thrown(what, call, IllegalArgumentException.class);
    }

    private static void thrown(String what, Call call, Class<?> want) {
        asked++;
        String got;
        try {
            got = "" + call.get();
        } catch (RuntimeException e) {
            got = e.getClass() == want ? "" : e.toString();
        }
        if (!got.isEmpty()) {
            wrong++;
            System.out.println("promise " + promise + ": " + what + " should throw " + want.getSimpleName() + ", but: " + got);
        }
    }

    // ---- signals whose answers can be told by hand

    /** HOP 8, WIDE 4, lags from 2 on. */
    private static PitchMarks made(int high) {
        PitchMarks p = new PitchMarks();
        p.bound(2, 8);
        p.bound(3, 4);
        p.bound(4, 2);
        p.bound(5, high);
        return p;
    }

    /** 8 4 0 -4, six times: FRAMES 0 and 1, lag 4 in both. */
    private static PitchMarks plain() {
        PitchMarks p = made(5);
        p.cycles(4, 8, 6);
        return p;
    }

    /** Three FRAMES of lag 4, three of silence, three of lag 5; 78 SAMPLES. */
    private static PitchMarks two() {
        PitchMarks p = made(5);
        p.cycles(4, 8, 6);
        p.noise(0, 24, 0);
        p.cycles(5, 10, 6);
        return p;
    }

    /** Lags 3, 3, 3, 5, 5, 5: an octave lies between them, as 5 is twice 3 less 1. */
    private static PitchMarks octave() {
        PitchMarks p = made(5);
        p.cycles(3, 9, 8);
        p.cycles(5, 10, 6);
        return p;
    }

    /** 8 4 0 -4 9 4 0 -4, five times: 8 is the period, 4 is nearly one; four FRAMES. */
    private static PitchMarks twice() {
        PitchMarks p = made(10);
        int a = 0x080400fc;
        int b = 0x090400fc;
        p.feed(a, b, a, b, a);
        p.feed(b, a, b, a, b);
        p.samples(40);
        p.bound(8, 0);
        return p;
    }

    /** A silent FRAME, then lag 4 in four of them; to be UNVOICED is cheap. */
    private static PitchMarks late() {
        PitchMarks p = made(5);
        p.noise(0, 8, 0);
        p.cycles(4, 8, 9);
        p.bound(9, 100);
        p.bound(12, 150);
        return p;
    }

    /** One FRAME of lag 20, whose SPAN has 8 SAMPLES and so a single MARK. */
    private static PitchMarks lone() {
        PitchMarks p = made(20);
        p.cycles(20, 100, 2);
        p.cut(8);
        return p;
    }

    private static int[] all(int n, java.util.function.IntUnaryOperator of) {
        return java.util.stream.IntStream.range(0, n).map(of).toArray();
    }

    // ---- the signal

    private static void theSignal() {
        promise = 1;
        PitchMarks fresh = new PitchMarks();
        row("count", all(18, fresh::count), 0, 0, 10, 20, 4, 24, 400, 3, 4, 500, 10, 150, 200, 3, 0, 60, 0, 0);
        feed();
        samples();
        cycles();
        noise();
        pokeCutSample();
    }

    private static void feed() {
        promise = 2;
        PitchMarks p = new PitchMarks();
        due("feed", 20, p.feed(0x01020304, 0x05060708, 0x7f80ff00, 0, -2));
        p.samples(20);
        row("bytes", all(20, p::sample), 1, 2, 3, 4, 5, 6, 7, 8, 127, -128, -1, 0, 0, 0, 0, 0, -1, -1, -1, -2);
        for (int i = 1; i <= 20; i++) {
            due("feed", 20 * i, p.feed(i, 0, 0, 0, MIN));
        }
        due("feed", NONE, p.feed(1, 2, 3, 4, 5));
        due("the tape", 400, p.count(16));
        due("samples", 420, p.samples(400));
        due("the last byte", 0, p.sample(419));
        due("the first of the last number", -128, p.sample(416));
    }

    private static void samples() {
        promise = 3;
        PitchMarks p = new PitchMarks();
        due("samples of nothing", 0, p.samples(0));
        due("samples", NOT, p.samples(1));
        p.feed(0x80ff007f, 1, 2, 3, 4);
        due("samples", NOT, p.samples(21));
        due("samples", NOT, p.samples(-1));
        due("samples", NOT, p.samples(MIN));
        due("samples", NOT, p.samples(MAX));
        due("the tape", 20, p.count(16));
        due("samples", 4, p.samples(4));
        due("the tape", 0, p.count(16));
        row("samples", all(4, p::sample), -128, -1, 0, 127);
        p.cycles(2, 1, 50);
        p.cycles(14, 1, 49);
        p.feed(1, 2, 3, 4, 5);
        due("samples", NOT, p.samples(11));
        due("nothing changes", 790, p.count(0));
        due("nothing changes", 20, p.count(16));
        due("samples", 800, p.samples(10));
        p.feed(1, 2, 3, 4, 5);
        due("samples", NOT, p.samples(1));
        due("samples", 800, p.samples(0));
        due("the tape", 0, p.count(16));
    }

    private static void cycles() {
        promise = 4;
        PitchMarks p = new PitchMarks();
        due("cycles", 10, p.cycles(5, 7, 2));
        row("cycles", all(10, p::sample), 7, 5, 2, -1, -4, 7, 5, 2, -1, -4);
        int[][] others = {{1, 5, 5}, {49, 5, 5}, {5, -1, 5}, {5, 128, 5}, {5, 5, 0}, {5, 5, 51}, {5, 5, -1}, {MAX, 5, MAX}, {5, MIN, 5},
            {48, 1, 17}, {16, 1, 50}};
        for (int[] o : others) {
            due("cycles", NOT, p.cycles(o[0], o[1], o[2]));
        }
        due("SAMPLES", 10, p.count(0));
        due("cycles", 58, p.cycles(48, 127, 1));
        due("the last of 48", 127 - 2 * 127 * 47 / 48, p.sample(57));
        due("cycles", 60, p.cycles(2, 0, 1));
        due("cycles", 110, p.cycles(2, 127, 25));
        due("its second", 0, p.sample(61));
        due("cycles", 800, p.cycles(15, 5, 46));
        due("cycles", NOT, p.cycles(2, 5, 1));
        due("cycles", 800, new PitchMarks().cycles(16, 1, 50));
    }

    private static void noise() {
        promise = 5;
        PitchMarks p = new PitchMarks();
        // a seed of 1 draws 16838, 5758, 10113, 17515
        due("noise", 4, p.noise(1, 4, 10));
        row("noise", all(4, p::sample), 7, -6, 2, -9);
        due("noise", 6, p.noise(MIN, 2, 0));
        due("noise of no height", 0, p.sample(5));
        // the second seed is below 0: its bits are taken without its sign
        due("noise", 8, p.noise(-1, 2, 127));
        due("noise", drawn(-1, 1, 127), p.sample(6));
        due("noise", drawn(-1, 2, 127), p.sample(7));
        int[][] others = {{1, 0, 5}, {1, 401, 5}, {1, -1, 5}, {1, 5, -1}, {1, 5, 128}, {1, MAX, 5}, {1, 5, MAX}};
        for (int[] o : others) {
            due("noise", NOT, p.noise(o[0], o[1], o[2]));
        }
        due("noise", 408, p.noise(3, 400, 127));
        due("noise", NOT, p.noise(3, 393, 127));
        due("noise", 800, p.noise(3, 392, 127));
        due("noise", NOT, p.noise(3, 1, 1));
    }

    private static int drawn(int seed, int times, int height) {
        java.math.BigInteger s = java.math.BigInteger.valueOf(seed);
        for (int i = 0; i < times; i++) {
            s = s.multiply(java.math.BigInteger.valueOf(1103515245)).add(java.math.BigInteger.valueOf(12345));
            s = s.mod(java.math.BigInteger.ONE.shiftLeft(32));
        }
        return s.shiftRight(16).intValue() % 32768 % (2 * height + 1) - height;
    }

    private static void pokeCutSample() {
        promise = 6;
        PitchMarks p = new PitchMarks();
        due("poke", NOT, p.poke(0, 0));
        p.cycles(4, 8, 2);
        due("poke", -4, p.poke(7, 127));
        due("poke", 127, p.poke(7, -128));
        due("poke", -128, p.poke(7, 5));
        due("poke", NOT, p.poke(8, 5));
        due("poke", NOT, p.poke(-1, 5));
        due("poke", NOT, p.poke(7, 128));
        due("poke", NOT, p.poke(7, -129));
        due("the others stay", 0, p.sample(6));
        due("SAMPLES", 8, p.count(0));
        promise = 7;
        due("cut", 8, p.cut(0));
        due("cut", NOT, p.cut(9));
        due("cut", NOT, p.cut(-1));
        due("cut", NOT, p.cut(MIN));
        due("cut", 5, p.cut(3));
        due("the last one", 8, p.sample(4));
        due("cut", 0, p.cut(5));
        due("cut", NOT, p.cut(1));
        promise = 8;
        noSuch("sample", () -> p.sample(0));
        p.cycles(4, 8, 1);
        row("sample", all(4, p::sample), 8, 4, 0, -4);
        noSuch("sample", () -> p.sample(4));
        noSuch("sample", () -> p.sample(-1));
        noSuch("sample", () -> p.sample(MIN));
    }

    // ---- bounds

    private static void bounds() {
        promise = 9;
        int[] least = {8, 4, 2, 3, 0, 1, 0, 0, 0, 0, 0, 0, 0, 0};
        int[] most = {40, 60, 47, 48, 2000, 5, 20, 2000, 50, 2000, 2000, 20, 2000, 500};
        int[] first = {10, 20, 4, 24, 400, 3, 4, 500, 10, 150, 200, 3, 0, 60};
        for (int what = 2; what <= 15; what++) {
            PitchMarks p = new PitchMarks();
            if (what == 4) {
                p.bound(5, 48);
            }
            if (what == 5) {
                p.bound(4, 2);
            }
            due("bound " + what, first[what - 2], p.bound(what, least[what - 2]));
            due("bound " + what, NOT, p.bound(what, least[what - 2] - 1));
            due("bound " + what, least[what - 2], p.bound(what, most[what - 2]));
            due("bound " + what, NOT, p.bound(what, most[what - 2] + 1));
            due("bound " + what, NOT, p.bound(what, MIN));
            due("bound " + what, most[what - 2], p.count(what));
        }
        PitchMarks p = new PitchMarks();
        for (int what : new int[] {0, 1, 16, 17, -1, MIN, MAX}) {
            due("bound", NOT, p.bound(what, 20));
        }
        due("LOW is below HIGH", NOT, p.bound(4, 24));
        due("LOW", 4, p.bound(4, 23));
        due("HIGH is above LOW", NOT, p.bound(5, 23));
        due("HIGH", 24, p.bound(5, 25));
        due("LOW", 23, p.count(4));
        promise = 10;
        PitchMarks q = two();
        q.feed(1, 2, 3, 4, 5);
        q.tune(3);
        row("count", all(18, q::count), 78, 9, 8, 4, 2, 5, 400, 3, 4, 500, 10, 150, 200, 3, 0, 60, 20, 1);
        noSuch("count", () -> q.count(18));
        noSuch("count", () -> q.count(-1));
        noSuch("count", () -> q.count(MAX));
        q.cut(5);
        due("FRAMES need WIDE, HIGH and 1", 8, q.count(1));
        q.noise(0, 1, 0);
        due("FRAMES", 9, q.count(1));
        PitchMarks full = mostFrames();
        due("most FRAMES", 100, full.count(1));
        due("the last one", 500, full.candidate(99, full.candidates(99) - 1, 1));
        due("the first PATH of all", full.cost(0), full.best(0));
        due("the same", full.path(99), full.bestAt(0, 99));
        due("the last SAMPLE", full.sample(799), full.anew(1, 1, 799));
    }

    private static PitchMarks mostFrames() {
        PitchMarks p = made(3);
        p.cycles(16, 50, 50);
        return p;
    }

    // ---- frames

    private static void frames() {
        promise = 11;
        PitchMarks p = plain();
        row("diff", all(7, lag -> p.diff(1, lag)), 0, 24, 32, 24, 0, 24, 32);
        p.poke(8, 10);
        row("diff of FRAME 0", all(7, lag -> p.diff(0, lag)), 0, 24, 32, 24, 0, 26, 34);
        row("diff of FRAME 1", all(7, lag -> p.diff(1, lag)), 0, 26, 34, 26, 2, 26, 34);
        noSuch("diff", () -> p.diff(2, 0));
        noSuch("diff", () -> p.diff(-1, 0));
        noSuch("diff", () -> p.diff(0, 7));
        noSuch("diff", () -> p.diff(0, -1));
        noSuch("diff", () -> p.diff(MAX, MAX));
        promise = 12;
        PitchMarks q = plain();
        row("rel", all(7, lag -> q.rel(0, lag)), 1000, 1000, 1142, 900, 0, 1153, 1411);
        noSuch("rel", () -> q.rel(0, 7));
        noSuch("rel", () -> q.rel(0, -1));
        noSuch("rel", () -> q.rel(2, 0));
        row("rel of silence", all(7, lag -> two().rel(3, lag)), 1000, 1000, 1000, 1000, 1000, 1000, 1000);
        due("rel, where nothing is off up to here", 5000, two().rel(5, 5));
        promise = 13;
        due("loud", 16, q.loud(1));
        q.poke(11, -128);
        due("loud", 140, q.loud(1));
        due("loud", 16, q.loud(0));
        due("loud", 0, two().loud(4));
        noSuch("loud", () -> q.loud(2));
        noSuch("loud", () -> q.loud(-1));
        candidates();
        fine();
    }

    private static void candidates() {
        promise = 14;
        PitchMarks p = plain();
        due("candidates", 2, p.candidates(0));
        p.bound(14, 16);
        due("as LOUD as FLOOR", 2, p.candidates(0));
        p.bound(14, 17);
        due("less LOUD than FLOOR", 1, p.candidates(0));
        noSuch("candidates", () -> p.candidates(2));
        noSuch("candidates", () -> p.candidates(-1));
        due("silence", 1, two().candidates(4));
        PitchMarks q = twice();
        due("lags 4 and 8", 3, q.candidates(3));
        q.bound(6, 47);
        due("as DEEP as 47", 3, q.candidates(3));
        q.bound(6, 46);
        due("less DEEP than 47", 2, q.candidates(3));
        promise = 15;
        q.bound(6, 400);
        q.bound(8, 3);
        row("lags", all(3, i -> q.candidate(0, i, 0)), 4, 8, 0);
        row("OWN", all(3, i -> q.candidate(0, i, 1)), 47 + 12, 24, 500);
        row("DOUBLE", all(3, i -> q.candidate(0, i, 2)), NONE, 0, NONE);
        row("cost less", all(3, i -> q.candidate(0, i, 3)), 1, 0, 2);
        q.bound(9, 24);
        row("cost less, of like ones none", all(3, i -> q.candidate(0, i, 3)), 2, 0, 0);
        q.bound(7, 1);
        row("the DIP of least REL", all(2, i -> q.candidate(0, i, 0)), 8, 0);
        row("DOUBLE of none", all(2, i -> q.candidate(0, i, 2)), NONE, NONE);
        noSuch("candidate", () -> q.candidate(0, 2, 0));
        noSuch("candidate", () -> q.candidate(0, -1, 0));
        noSuch("candidate", () -> q.candidate(4, 0, 0));
        noSuch("candidate", () -> q.candidate(0, 0, 4));
        noSuch("candidate", () -> q.candidate(0, 0, -1));
        PitchMarks like = made(16);
        like.cycles(4, 8, 10);
        like.bound(7, 2);
        row("of like DIPS the lesser lags", all(3, i -> like.candidate(0, i, 0)), 4, 8, 0);
        like.bound(7, 5);
        row("all", all(5, i -> like.candidate(0, i, 0)), 4, 8, 12, 16, 0);
        row("DOUBLE", all(5, i -> like.candidate(0, i, 2)), NONE, 0, NONE, 1, NONE);
        like.bound(4, 5);
        row("from LOW on", all(4, i -> like.candidate(0, i, 0)), 8, 12, 16, 0);
    }

    private static void fine() {
        promise = 16;
        PitchMarks p = twice();
        // at 4: DIFFS 25, 1, 24
        due("fine", 4 * 94 + 1, p.fine(0, 0, false));
        due("fine", 94, p.fine(0, 0, true));
        // at 8: DIFFS 24, 0, 25
        due("fine", 8 * 98 - 1, p.fine(0, 1, false));
        due("fine", 98, p.fine(0, 1, true));
        due("a whole one", 4, plain().fine(1, 0, false));
        due("a whole one", 1, plain().fine(1, 0, true));
        noSuch("fine of UNVOICED", () -> p.fine(0, 2, false));
        noSuch("fine", () -> p.fine(0, 3, true));
        noSuch("fine", () -> p.fine(0, -1, true));
        noSuch("fine", () -> p.fine(4, 0, true));
        bent();
    }

    /** DIFFS that bend the other way, or not at all, at a DIP of REL. */
    private static void bent() {
        boolean other = false;
        boolean flat = false;
        int[][] rare = {{1298716, 2}, {5614571, 2}, {36387805, 127}, {139247696, 10}, {237657109, 10}, {5796708, 127}, {8568358, 127}};
        for (int[] r : rare) {
            PitchMarks p = made(10);
            p.noise(r[0], 23, r[1]);
            p.bound(6, 2000);
            p.bound(7, 5);
            for (int i = 0; i + 1 < p.candidates(0); i++) {
                int lag = p.candidate(0, i, 0);
                int a = p.diff(0, lag - 1);
                int c = p.diff(0, lag + 1);
                int below = 2 * (a - 2 * p.diff(0, lag) + c);
                flat |= below == 0;
                other |= below < 0;
                if (below == 0) {
                    due("fine, if that is 0", lag, p.fine(0, i, false));
                    due("fine, if that is 0", 1, p.fine(0, i, true));
                } else {
                    int up = p.fine(0, i, false);
                    int down = p.fine(0, i, true);
                    due("above 0", 1, down > 0 ? 1 : 0);
                    due("the same part", (lag * below + a - c) * down, below * up);
                    due("lowest terms", 1, java.math.BigInteger.valueOf(up).gcd(java.math.BigInteger.valueOf(down)).intValue());
                }
            }
        }
        due("one that bends the other way was seen", 1, other ? 1 : 0);
        due("one that is flat was seen", 1, flat ? 1 : 0);
    }

    // ---- paths

    private static void paths() {
        promise = 17;
        PitchMarks p = octave();
        row("cost", all(5, p::cost), 266, 96, 20, 150, 0);
        row("cost", all(5, two()::cost), 2008, 1608, 0, 0, 400);
        PitchMarks near = made(6);
        near.cycles(4, 8, 6);
        near.cycles(6, 9, 6);
        row("4 and 6 are no octave", all(5, near::cost), 3 * 16 + 4 * 24 + 20, 3 * 16 + 4 * 24, 20, 0, 0);
        PitchMarks far = made(7);
        far.cycles(4, 8, 6);
        far.cycles(7, 9, 6);
        due("4 and 7 are one", 150, far.cost(3));
        noSuch("cost", () -> p.cost(5));
        noSuch("cost", () -> p.cost(-1));
        row("cost of no FRAMES", all(5, new PitchMarks()::cost), 0, 0, 0, 0, 0);
        promise = 18;
        row("path", all(9, two()::path), 0, 0, 0, 0, 0, 0, 0, 0, 0);
        PitchMarks quiet = two();
        quiet.bound(9, 0);
        row("path", all(9, quiet::path), 1, 1, 1, 0, 0, 0, 1, 1, 1);
        noSuch("path", () -> quiet.path(9));
        noSuch("path", () -> quiet.path(-1));
        PitchMarks tie = plain();
        tie.bound(9, 16);
        tie.bound(12, 0);
        row("of like PATHS the lesser numbers", all(2, tie::path), 0, 0);
        tie.bound(9, 15);
        row("what costs less", all(2, tie::path), 1, 1);
        promise = 19;
        row("lag", all(9, two()::lag), 4, 4, 4, 0, 0, 0, 5, 5, 5);
        row("lag", all(9, quiet::lag), 0, 0, 0, 0, 0, 0, 0, 0, 0);
        noSuch("lag", () -> p.lag(6));
        noSuch("lag", () -> p.lag(-1));
        tiesAreToldFromTheFirstFrame();
    }

    /** Two lags that cost the same, a JUMP that costs nothing: the first FRAME decides, not the last one. */
    private static void tiesAreToldFromTheFirstFrame() {
        promise = 18;
        PitchMarks p = made(10);
        p.cycles(4, 8, 10);
        p.bound(8, 0);
        p.bound(10, 0);
        p.bound(11, 0);
        row("path", all(4, p::path), 0, 0, 0, 0);
        for (int k = 0; k < 8; k++) {
            int rank = k;
            row("the paths count up", all(4, f -> p.bestAt(rank, f)), 0, k >> 2 & 1, k >> 1 & 1, k & 1);
        }
        laterNumbersDoNotDecide();
    }

    /** Lag 4, then 9, and a jump costs more than to be UNVOICED: where that is, is told from the first FRAME. */
    private static void laterNumbersDoNotDecide() {
        PitchMarks p = made(13);
        p.cycles(4, 8, 6);
        p.bound(8, 0);
        p.bound(9, 50);
        p.bound(10, 50);
        p.bound(11, 2000);
        p.bound(12, 0);
        p.bound(7, 1);
        p.cycles(9, 45, 4);
        row("candidates", all(p.count(1), p::candidates), 2, 2, 2, 2, 2, 2);
        row("lags", all(p.count(1), f -> p.candidate(f, 0, 0)), 4, 4, 4, 9, 9, 9);
        due("cost", 50, p.cost(0));
        row("path", all(6, p::path), 0, 0, 0, 1, 0, 0);
        row("path", all(6, f -> p.bestAt(1, f)), 0, 0, 1, 0, 0, 0);
        // the same as if the first FRAME of 9 were the last one
        due("live", 0, p.live(2, 1));
        due("live", 1, p.live(3, 0));
    }

    private static void otherPaths() {
        promise = 20;
        PitchMarks p = two();
        due("through THE PATH", 2008, p.through(0, 0));
        due("through", 2008 - 16 + 500 + 200, p.through(0, 1));
        due("through", 2008 - 16 + 500 + 400, p.through(1, 1));
        noSuch("through", () -> p.through(0, 2));
        noSuch("through", () -> p.through(0, -1));
        noSuch("through", () -> p.through(9, 0));
        promise = 21;
        due("both", 2008, p.both(0, 0, 8, 0));
        due("both", 2008 - 16 - 20 + 1000 + 400, p.both(0, 1, 8, 1));
        due("both", 2008 - 32 + 1000 + 200, p.both(0, 1, 1, 1));
        due("both", 2008 - 32 + 1000 + 200, p.both(0, 1, 2, 1));
        illegal("both", () -> p.both(1, 0, 1, 0));
        illegal("both", () -> p.both(2, 0, 1, 0));
        noSuch("both", () -> p.both(1, 2, 1, 0));
        noSuch("both", () -> p.both(1, 0, 1, 2));
        noSuch("both", () -> p.both(9, 0, 1, 0));
        noSuch("both", () -> p.both(0, 0, 9, 0));
        noSuch("both", () -> p.both(0, 0, -1, 0));
        promise = 22;
        PitchMarks q = twice();
        due("cost", 0, q.cost(0));
        due("single", 4 * 47, q.single());
        q.bound(9, 40);
        due("single", 160, q.single());
        due("single of no FRAMES", 0, new PitchMarks().single());
        due("single", 2008, p.single());
        liveAndSettles();
        best();
        wouldAndDoubled();
    }

    private static void liveAndSettles() {
        promise = 23;
        PitchMarks p = late();
        row("candidates", all(p.count(1), p::candidates), 1, 2, 2, 2, 2);
        due("alone it isn't worth it", 1, p.live(1, 0));
        due("with one more it is", 0, p.live(1, 1));
        due("more", 0, p.live(1, 20));
        due("at the last one, if there are not so many", 0, p.live(4, 20));
        due("behind others", 0, p.live(2, 0));
        illegal("live", () -> p.live(1, 21));
        illegal("live", () -> p.live(1, -1));
        noSuch("live", () -> p.live(5, 0));
        noSuch("live", () -> p.live(-1, 21));
        promise = 24;
        row("settles", all(5, p::settles), 0, 1, 0, 0, 0);
        p.bound(12, 400);
        // one of voice saves 84, its beginning costs 400
        row("settles", all(5, p::settles), 0, 0, 0, 0, 0);
        p.bound(12, 250);
        row("settles", all(5, p::settles), 0, 2, 1, 0, 0);
        noSuch("settles", () -> p.settles(5));
        noSuch("settles", () -> p.settles(-1));
        PitchMarks longer = longWait();
        due("settles at 20", 20, longer.settles(1));
        due("live", 1, longer.live(1, 19));
        due("live", 0, longer.live(1, 20));
    }

    /** Voice saves 1 a FRAME, and its beginning costs 21. */
    private static PitchMarks longWait() {
        PitchMarks p = made(5);
        p.noise(0, 8, 0);
        p.cycles(4, 8, 50);
        p.bound(9, 17);
        p.bound(12, 21);
        return p;
    }

    private static void best() {
        promise = 25;
        PitchMarks p = plain();
        row("best", all(8, p::best), 32, 716, 716, 1000, NONE, NONE, NONE, NONE);
        illegal("best", () -> p.best(8));
        illegal("best", () -> p.best(-1));
        PitchMarks none = new PitchMarks();
        row("best of no FRAMES", all(8, none::best), 0, NONE, NONE, NONE, NONE, NONE, NONE, NONE);
        promise = 26;
        row("bestAt", all(8, k -> p.bestAt(k, 0)), 0, 0, 1, 1, NONE, NONE, NONE, NONE);
        row("bestAt", all(8, k -> p.bestAt(k, 1)), 0, 1, 0, 1, NONE, NONE, NONE, NONE);
        illegal("bestAt", () -> p.bestAt(8, 2));
        illegal("bestAt", () -> p.bestAt(-1, 0));
        noSuch("bestAt", () -> p.bestAt(4, 2));
        noSuch("bestAt", () -> p.bestAt(0, -1));
        noSuch("bestAt", () -> none.bestAt(0, 0));
    }

    private static void wouldAndDoubled() {
        promise = 27;
        PitchMarks p = octave();
        due("would", 266, p.would(150, 200));
        due("would", 116, p.would(0, 2000));
        due("another PATH is first then", 96 - 20 + 500, p.would(2000, 0));
        due("nothing changes", 266, p.cost(0));
        due("would of no FRAMES", 0, new PitchMarks().would(0, 0));
        illegal("would", () -> p.would(2001, 0));
        illegal("would", () -> p.would(-1, 0));
        illegal("would", () -> p.would(0, 2001));
        illegal("would", () -> p.would(0, -1));
        promise = 28;
        PitchMarks q = twice();
        due("doubled", 4, q.doubled());
        q.bound(8, 20);
        due("doubled", 0, q.doubled());
        due("doubled", 0, two().doubled());
    }

    // ---- spans, notes, lags

    private static void spansAndNotes() {
        promise = 29;
        due("spans", 3, two().spans());
        due("spans", 1, octave().spans());
        due("spans", 0, new PitchMarks().spans());
        promise = 30;
        PitchMarks p = two();
        row("a voiced one", all(7, what -> p.span(0, what)), 0, 3, 1, 0, 24, 7, 41);
        row("an UNVOICED one", all(7, what -> p.span(1, what)), 3, 3, 0, 24, 48, 0, 0);
        row("a voiced one", all(7, what -> p.span(2, what)), 6, 3, 1, 48, 72, 5, 50);
        noSuch("span", () -> p.span(3, 0));
        noSuch("span", () -> p.span(-1, 0));
        noSuch("span", () -> p.span(0, 7));
        noSuch("span", () -> p.span(0, -1));
        PitchMarks wide = made(5);
        wide.bound(2, 40);
        wide.cycles(4, 8, 13);
        due("no farther than THE SIGNAL", 52, wide.span(0, 4));
        wide.cut(4);
        due("a HOP", 40, wide.span(0, 4));
        promise = 31;
        due("notes", 2, p.notes());
        due("notes", 2, octave().notes());
        due("notes", 1, gliding().notes());
        due("notes", 0, new PitchMarks().notes());
        promise = 32;
        row("note", all(3, what -> p.note(0, what)), 0, 3, 4);
        row("note", all(3, what -> p.note(1, what)), 6, 3, 5);
        row("note", all(3, what -> octave().note(1, what)), 3, 3, 5);
        row("lags 4 4 4 5 5 5", all(3, what -> gliding().note(0, what)), 0, 6, 4);
        noSuch("note", () -> p.note(2, 0));
        noSuch("note", () -> p.note(-1, 0));
        noSuch("note", () -> p.note(0, 3));
        noSuch("note", () -> p.note(0, -1));
    }

    /** Lags 4, 4, 4, 5, 5, 5. */
    private static PitchMarks gliding() {
        PitchMarks p = made(5);
        p.cycles(4, 8, 6);
        p.cycles(5, 10, 6);
        return p;
    }

    private static void lagsAndTunes() {
        promise = 33;
        PitchMarks p = two();
        row("steady, of like ones the first", all(3, p::steady), 0, 3, 4);
        PitchMarks more = two();
        more.cycles(5, 10, 2);
        row("steady", all(3, more::steady), 6, 4, 5);
        PitchMarks quiet = two();
        quiet.bound(9, 0);
        row("none", all(3, quiet::steady), NONE, 0, 0);
        noSuch("steady", () -> quiet.steady(3));
        noSuch("steady", () -> quiet.steady(-1));
        promise = 34;
        due("lags", 2, p.lags());
        due("lags", 0, quiet.lags());
        due("lags", 1, plain().lags());
        promise = 35;
        row("lagAt", all(4, i -> more.lagAt(i / 2, i % 2)), 4, 3, 5, 4);
        noSuch("lagAt", () -> p.lagAt(2, 0));
        noSuch("lagAt", () -> p.lagAt(-1, 0));
        noSuch("lagAt", () -> p.lagAt(0, 2));
        noSuch("lagAt", () -> p.lagAt(0, -1));
        promise = 36;
        row("common", all(2, p::common), 4, 4);
        row("common", all(2, more::common), 5, 5);
        row("none", all(2, quiet::common), NONE, NONE);
        noSuch("common", () -> quiet.common(2));
        noSuch("common", () -> quiet.common(-1));
        tunes();
    }

    private static void tunes() {
        promise = 37;
        PitchMarks p = two();
        for (int lag : new int[] {0, 49, -1, MIN, MAX}) {
            due("tune", NOT, p.tune(lag));
        }
        due("tune", 1, p.tune(1));
        due("tune", 2, p.tune(48));
        for (int i = 3; i <= 12; i++) {
            due("tune", i, p.tune(5));
        }
        due("tune", NOT, p.tune(5));
        promise = 38;
        due("hush", 12, p.hush());
        due("hush", 0, p.hush());
        due("tune", 0, p.count(17));
        promise = 39;
        row("no tune", all(2, p::match), 120, 0);
        p.tune(5);
        row("5 with 4 and 5", all(2, p::match), 60, 1);
        p.tune(5);
        row("5 5 with 4 and 5", all(2, p::match), 10, 2);
        p.tune(30);
        row("5 5 30 with 4 and 5", all(2, p::match), 70, 2);
        noSuch("match", () -> p.match(2));
        noSuch("match", () -> p.match(-1));
        promise = 40;
        row("matched", all(3, p::matched), 0, 1, NONE);
        noSuch("matched", () -> p.matched(3));
        noSuch("matched", () -> p.matched(-1));
        p.hush();
        p.tune(5);
        row("matched", all(1, p::matched), 1);
        p.bound(15, 0);
        row("none is behind all", all(1, p::matched), 1);
        p.hush();
        p.tune(3);
        row("a pair costs more than none", all(1, p::matched), NONE);
        p.bound(15, 5);
        row("a pair costs as much as none", all(1, p::matched), 0);
        p.hush();
        p.tune(4);
        p.tune(4);
        p.bound(15, 20);
        row("of like ones the first has the lesser NOTE", all(2, p::matched), 0, 1);
        p.bound(15, 1);
        row("a pair of 10 is more than two of MISS", all(2, p::matched), 0, NONE);
    }

    // ---- marks

    private static void marks() {
        promise = 41;
        due("marks", 12, two().marks());
        due("marks", 1, lone().marks());
        due("marks", 0, new PitchMarks().marks());
        promise = 42;
        PitchMarks p = two();
        // 20, 23 and 21 alone are worth the same: the lesser SAMPLE is ahead
        row("mark", all(12, p::mark), 0, 4, 8, 12, 16, 20, 23, 48, 53, 58, 63, 68);
        noSuch("mark", () -> p.mark(12));
        noSuch("mark", () -> p.mark(-1));
        p.bound(13, 2);
        due("without much of STRAY", 42, p.span(0, 6));
        row("the last of the first P SAMPLES", all(3, turned()::mark), 3, 7, 11);
        row("not behind the first P SAMPLES", all(3, lowFirst()::mark), 0, 4, 8);
        promise = 43;
        PitchMarks q = two();
        due("near", 0, q.near(2));
        due("near", 4, q.near(3));
        due("near", 23, q.near(35));
        due("near", 48, q.near(36));
        due("near", 0, q.near(MIN));
        due("near", 68, q.near(MAX));
        due("near", NONE, new PitchMarks().near(0));
        promise = 44;
        due("behind", 0, q.behind(-1));
        due("behind", 4, q.behind(0));
        due("behind", 48, q.behind(23));
        due("behind", 68, q.behind(67));
        due("behind", NONE, q.behind(68));
        due("behind", 0, q.behind(MIN));
        due("behind", NONE, q.behind(MAX));
        due("behind", NONE, new PitchMarks().behind(-1));
    }

    /** 0 -4 4 8, ten times. */
    private static PitchMarks turned() {
        PitchMarks p = made(5);
        int cycle = 0x00fc0408;
        p.feed(cycle, cycle, cycle, cycle, cycle);
        p.feed(cycle, cycle, cycle, cycle, cycle);
        p.samples(40);
        return p;
    }

    /** The first cycle lies 20 lower than the others, so that no MARK in it is worth anything. */
    private static PitchMarks lowFirst() {
        PitchMarks p = plain();
        p.cycles(4, 8, 6);
        p.bound(3, 20);
        p.bound(6, 2000);
        p.bound(9, 2000);
        for (int i = 0; i < 4; i++) {
            p.poke(i, -12 - 4 * i);
        }
        return p;
    }

    private static void gapsAndAnew() {
        promise = 45;
        PitchMarks p = two();
        row("gaps", all(5, p::gaps), 10, 1, 12, 5, 3);
        row("a single MARK", all(5, lone()::gaps), 0, 0, 0, NONE, NONE);
        noSuch("gaps", () -> p.gaps(5));
        noSuch("gaps", () -> p.gaps(-1));
        promise = 46;
        row("rough", all(12, p::rough), 0, 0, 0, 0, 0, 16, NONE, 0, 0, 0, 0, NONE);
        noSuch("rough", () -> p.rough(12));
        noSuch("rough", () -> p.rough(-1));
        PitchMarks end = made(5);
        end.bound(2, 40);
        end.cycles(4, 8, 13);
        int last = end.marks() - 2;
        due("the last GAP goes to the end", 51, end.mark(last + 1));
        due("x is 0 behind THE SIGNAL", 12 + 4 + 0, end.rough(last));
        promise = 47;
        due("roughest", 5, p.roughest());
        due("none", NONE, lone().roughest());
        due("none", NONE, new PitchMarks().roughest());
        due("of like ones the first", 0, smooth().roughest());
        promise = 48;
        due("mean", 43, p.mean(false));
        due("mean", 10, p.mean(true));
        due("mean, in lowest terms", 4, smooth().mean(false));
        due("mean, in lowest terms", 1, smooth().mean(true));
        noSuch("mean", () -> lone().mean(false));
        noSuch("mean", () -> new PitchMarks().mean(true));
        anew();
    }

    /** All GAPS are 4, and no MARK is rough. */
    private static PitchMarks smooth() {
        PitchMarks p = made(5);
        p.bound(2, 21);
        p.cycles(4, 8, 7);
        return p;
    }

    private static void anew() {
        promise = 49;
        PitchMarks p = two();
        // at 3 are two parts, each downwards by itself: -4 by 4, and -4 times 3 by 4
        row("anew 1 to 1", all(8, i -> p.anew(1, 1, i)), 8, 4, 0, -4, 8, 4, 0, -4);
        row("anew 2 to 1", all(8, i -> p.anew(2, 1, i)), 8, 3, 0, -1, 0, 1, 0, -3);
        due("UNVOICED", 0, p.anew(1, 2, 30));
        due("behind the last SPAN", 2, p.anew(2, 1, 75));
        illegal("anew", () -> p.anew(0, 1, 0));
        illegal("anew", () -> p.anew(5, 1, 0));
        illegal("anew", () -> p.anew(1, 0, 0));
        illegal("anew", () -> p.anew(1, 5, 0));
        noSuch("anew", () -> p.anew(1, 1, 78));
        noSuch("anew", () -> p.anew(1, 1, -1));
        noSuch("anew", () -> p.anew(0, 0, 78));
        PitchMarks one = lone();
        due("the single MARK", 0, one.mark(0));
        due("GRASP of it is P", 37, one.anew(1, 1, 5));
        due("downwards", 19, one.anew(1, 1, 7));
        due("two places", 19 + 72, one.anew(1, 4, 7));
        due("not in the SPAN", one.sample(9), one.anew(1, 4, 9));
        PitchMarks fast = made(3);
        fast.cycles(2, 60, 20);
        // GRASP 2 by 4 is nothing: places are 1 apart all the same
        due("the lag", 2, fast.lag(0));
        row("1 at least", all(4, i -> fast.anew(1, 4, i)), 60, 60, 60, 60);
    }
}
