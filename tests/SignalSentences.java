/** Sentences on the signal and on bounds: promises 1 to 10. */
final class SignalSentences extends Sentences {
    private static final int[] LEAST = {8, 4, 2, 3, 0, 1, 0, 0, 0, 0, 0, 0, 0, 0};
    private static final int[] MOST = {40, 60, 47, 48, 2000, 5, 20, 2000, 50, 2000, 2000, 20, 2000, 500};
    private static final int[] FIRST = {10, 20, 4, 24, 400, 3, 4, 500, 10, 150, 200, 3, 0, 60};
    private static final String[] BOUNDS = {"HOP (8 to 40; 10 at first)", "WIDE (4 to 60; 20)", "LOW (2 to 47, below HIGH; 4)",
        "HIGH (3 to 48; 24)", "DEEP (0 to 2000; 400)", "BEST (1 to 5; 3)", "LEAN (0 to 20; 4)", "QUIET (0 to 2000; 500)",
        "JUMP (0 to 50; 10)", "OCTAVE (0 to 2000; 150)", "VOICE (0 to 2000; 200)", "STRAY (0 to 20; 3)", "FLOOR (0 to 2000; 0)",
        "MISS (0 to 500; 60)"};

    private SignalSentences() {
    }

    static void tell() {
        theObject();
        theSignal();
        feed();
        samples();
        samplesRefused();
        cycles();
        cyclesRefused();
        noise();
        draw();
        poke();
        cut();
        sample();
        bounds();
        boundsRefused();
        count();
    }

    private static void theObject() {
        head("An object is used for at most 512 calls after it has been made");
        PitchMarks p = Signals.made(3);
        p.cycles(16, 50, 50);
        for (int i = 0; i < 253; i++) {
            p.poke(i, i % 100);
            p.best(7);
        }
        PitchMarks same = Signals.made(3);
        same.cycles(16, 50, 50);
        for (int i = 0; i < 253; i++) {
            same.poke(i, i % 100);
        }
        due("the 512th call", same.best(7), p.best(7));
        term("`NONE = -1`: There is none.");
        due("NONE", -1, PitchMarks.NONE);
        term("`NOT = -1000`: It can't be.");
        due("NOT", -1000, PitchMarks.NOT);
        promise(1, "No SAMPLES.");
        PitchMarks fresh = new PitchMarks();
        due("count(0)", 0, fresh.count(0));
        due("cut(1)", NOT, fresh.cut(1));
        due("no FRAMES", 0, fresh.count(1));
        due("nothing on the tape", 0, fresh.count(16));
        due("no lags of THE TUNE", 0, fresh.count(17));
        PitchMarks other = new PitchMarks();
        other.cycles(4, 8, 6);
        due("one object for itself", 0, fresh.count(0));
    }

    private static void theSignal() {
        term("Quotients go downwards (below 0, too).");
        PitchMarks p = Signals.lone();
        p.poke(7, -31);
        due("lag(0)", 20, p.lag(0));
        // GRASP is 20, the place is 0: -31 times 13 by 20 is -20.15
        due("anew(1, 1, 7)", -21, p.anew(1, 1, 7));
        p.poke(7, 31);
        due("anew(1, 1, 7)", 20, p.anew(1, 1, 7));
        term("THE SIGNAL has SAMPLES x(0), x(1) .. (at most 800)");
        PitchMarks full = new PitchMarks();
        due("399", 399, full.noise(7, 399, 9));
        due("799", 799, full.noise(8, 400, 9));
        due("two more", NOT, full.noise(9, 2, 9));
        due("two more", NOT, full.cycles(2, 9, 1));
        due("one more", 800, full.noise(9, 1, 0));
        due("the last one", 0, full.sample(799));
        due("none behind 800", NOT, full.noise(9, 1, 9));
        full.feed(1, 2, 3, 4, 5);
        due("none behind 800", NOT, full.samples(1));
        due("still", 800, full.count(0));
        term("each from -128 to 127");
        PitchMarks q = Signals.told(new PitchMarks(), -128, 127, -127, 126);
        row("sample", all(4, q::sample), -128, 127, -127, 126);
        due("poke(0, 128)", NOT, q.poke(0, 128));
        due("poke(0, -129)", NOT, q.poke(0, -129));
        term("none at first");
        noSuch("sample(0)", () -> new PitchMarks().sample(0));
    }

    private static void feed() {
        promise(2, "Twenty bytes come behind the tape, of each number the highest first: how many it has");
        PitchMarks p = new PitchMarks();
        due("feed", 20, p.feed(0x01020304, 0x05060708, 0x7f80ff00, MIN, MAX));
        due("feed", 40, p.feed(-1, -2, 0, 1, 0x00800000));
        p.samples(40);
        row("bytes", all(40, p::sample), 1, 2, 3, 4, 5, 6, 7, 8, 127, -128, -1, 0, -128, 0, 0, 0, 127, -1, -1, -1,
                -1, -1, -1, -1, -1, -1, -1, -2, 0, 0, 0, 0, 0, 0, 0, 1, 0, -128, 0, 0);
        promise(2, "NONE, and none come, if it would have more than 400");
        PitchMarks full = new PitchMarks();
        for (int i = 1; i <= 20; i++) {
            due("feed", 20 * i, full.feed(i << 24, 0, 0, 0, i));
        }
        refused("feed", full, NONE, () -> full.feed(9, 9, 9, 9, 9));
        refused("feed", full, NONE, () -> full.feed(9, 9, 9, 9, 9));
        due("the tape", 400, full.count(16));
        due("samples", 400, full.samples(400));
        due("the first byte", 1, full.sample(0));
        due("the first of the last twenty", 20, full.sample(380));
        due("the last byte", 20, full.sample(399));
        due("there is room again", 20, full.feed(9, 9, 9, 9, 9));
    }

    private static void samples() {
        promise(3, "The tape's first n bytes, each with its sign, come behind THE SIGNAL (the tape is empty then): SAMPLES then.");
        PitchMarks p = new PitchMarks();
        p.noise(0, 3, 0);
        p.feed(0x80ff007f, 1, 2, 3, 4);
        due("samples(4)", 7, p.samples(4));
        row("sample", all(7, p::sample), 0, 0, 0, -128, -1, 0, 127);
        due("the tape", 0, p.count(16));
        due("nothing waits there", NOT, p.samples(1));
        p.feed(0x05060708, 1, 2, 3, 4);
        due("samples(1)", 8, p.samples(1));
        due("from the new bytes", 5, p.sample(7));
        p.feed(1, 1, 2, 3, 4);
        due("samples(0)", 8, p.samples(0));
        due("the tape", 0, p.count(16));
        due("samples(0) of no tape", 8, p.samples(0));
        due("samples(0) of nothing", 0, new PitchMarks().samples(0));
        p.feed(1, 1, 2, 3, 4);
        due("samples(20)", 28, p.samples(20));
    }

    private static void samplesRefused() {
        promise(3, "NOT: the tape has not so many");
        PitchMarks none = new PitchMarks();
        refused("samples(1)", none, NOT, () -> none.samples(1));
        PitchMarks p = Signals.busy();
        refused("samples(21)", p, NOT, () -> p.samples(21));
        refused("samples(MAX)", p, NOT, () -> p.samples(MAX));
        promise(3, "n below 0");
        refused("samples(-1)", p, NOT, () -> p.samples(-1));
        refused("samples(MIN)", p, NOT, () -> p.samples(MIN));
        promise(3, "there would be more than 800 (nothing changes)");
        PitchMarks full = new PitchMarks();
        full.cycles(10, 3, 50);
        full.cycles(29, 3, 10);
        full.feed(0x01020304, 0x05060708, 0x090a0b0c, 4, 5);
        refused("samples(11)", full, NOT, () -> full.samples(11));
        refused("samples(20)", full, NOT, () -> full.samples(20));
        due("samples(10)", 800, full.samples(10));
        due("the first byte", 1, full.sample(790));
        due("the tenth byte", 10, full.sample(799));
        full.feed(1, 2, 3, 4, 5);
        refused("samples(1)", full, NOT, () -> full.samples(1));
        due("none is not too many", 800, full.samples(0));
    }

    private static void cycles() {
        promise(4, "so many times (1 to 50)");
        PitchMarks p = new PitchMarks();
        due("once", 3, p.cycles(3, 1, 1));
        due("50 times", 103, p.cycles(2, 1, 50));
        for (int times : new int[] {0, 51, -1, MIN, MAX}) {
            refused("cycles(2, 1, " + times + ")", p, NOT, () -> p.cycles(2, 1, times));
        }
        promise(4, "SAMPLES k from 0 to a period (2 to 48) less 1");
        PitchMarks q = new PitchMarks();
        due("two", 2, q.cycles(2, 100, 1));
        due("48", 50, q.cycles(48, 100, 1));
        due("k is 0", 100, q.sample(2));
        due("k is 47: 200 times 47 by 48 is 195.8", 100 - 195, q.sample(49));
        for (int period : new int[] {1, 49, 0, -1, -2, MIN, MAX}) {
            refused("cycles(" + period + ", 1, 1)", q, NOT, () -> q.cycles(period, 1, 1));
        }
        promise(4, "a height (0 to 127) less (2 times the height times k, by the period): SAMPLES then.");
        PitchMarks r = new PitchMarks();
        due("cycles", 10, r.cycles(5, 7, 2));
        row("sample", all(10, r::sample), 7, 5, 2, -1, -4, 7, 5, 2, -1, -4);
        due("no height", 13, r.cycles(3, 0, 1));
        due("no height", 0, r.sample(12));
        due("the greatest one", 16, r.cycles(3, 127, 1));
        row("127 less 254 k by 3", all(3, i -> r.sample(13 + i)), 127, 127 - 84, 127 - 169);
        for (int height : new int[] {-1, 128, MIN, MAX}) {
            refused("cycles(3, " + height + ", 1)", r, NOT, () -> r.cycles(3, height, 1));
        }
    }

    private static void cyclesRefused() {
        promise(4, "NOT: other numbers, there would be more than 800.");
        PitchMarks p = new PitchMarks();
        refused("816", p, NOT, () -> p.cycles(48, 1, 17));
        refused("2400", p, NOT, () -> p.cycles(48, 1, 50));
        // 65536 times 65536 wraps to 0
        refused("a product that wraps", p, NOT, () -> p.cycles(65536, 1, 65536));
        refused("all wrong", p, NOT, () -> p.cycles(MAX, MIN, MAX));
        p.noise(0, 1, 0);
        refused("801", p, NOT, () -> p.cycles(16, 1, 50));
        p.cut(1);
        due("800", 800, p.cycles(16, 1, 50));
        refused("802", p, NOT, () -> p.cycles(2, 1, 1));
    }

    private static void noise() {
        promise(5, "So many SAMPLES (1 to 400) come behind THE SIGNAL");
        PitchMarks p = new PitchMarks();
        due("one", 1, p.noise(1, 1, 3));
        due("400", 401, p.noise(1, 400, 3));
        for (int n : new int[] {0, 401, -1, MIN, MAX}) {
            PitchMarks none = new PitchMarks();
            refused("noise(1, " + n + ", 3)", none, NOT, () -> none.noise(1, n, 3));
        }
        promise(5, "a DRAW each of twice a height (0 to 127) and 1, less the height: SAMPLES then.");
        PitchMarks q = new PitchMarks();
        due("no height", 2, q.noise(5, 2, 0));
        row("sample", all(2, q::sample), 0, 0);
        due("a height of 1", 5, q.noise(1, 3, 1));
        row("MOD 3: 2, 1, 0", all(3, i -> q.sample(2 + i)), 1, 0, -1);
        due("the greatest height", 8, q.noise(1, 3, 127));
        row("MOD 255: 8, 148, 168", all(3, i -> q.sample(5 + i)), 8 - 127, 148 - 127, 168 - 127);
        for (int height : new int[] {-1, 128, MIN, MAX}) {
            refused("noise(1, 5, " + height + ")", q, NOT, () -> q.noise(1, 5, height));
        }
        promise(5, "NOT: other numbers, there would be more than 800.");
        refused("801", p, NOT, () -> p.noise(1, 400, 3));
        due("800", 800, p.noise(1, 399, 3));
        refused("801", p, NOT, () -> p.noise(1, 1, 3));
    }

    private static void draw() {
        term("the seed becomes itself times 1103515245 and 12345 (an int that wraps)");
        PitchMarks p = new PitchMarks();
        p.noise(MAX, 4, 127);
        row("MOD 255 of 15929, 4409, 9862, 26718", all(4, p::sample), 119 - 127, 74 - 127, 172 - 127, 198 - 127);
        p.noise(0, 4, 127);
        row("MOD 255 of 0, 21468, 9988, 22117", all(4, i -> p.sample(4 + i)), -127, 48 - 127, 43 - 127, 187 - 127);
        term("it is bits 16 to 30 of that MOD n");
        // seeds that differ in bit 31 alone go on so, and draw the same
        PitchMarks q = new PitchMarks();
        q.noise(-1, 4, 127);
        q.noise(MIN, 4, 127);
        row("the same", all(8, q::sample), all(8, p::sample));
        PitchMarks r = new PitchMarks();
        // 16838, 5758, 10113, 17515 MOD 21
        r.noise(1, 4, 10);
        row("less 10", all(4, r::sample), 7, -6, 2, -9);
    }

    private static void poke() {
        promise(6, "A SAMPLE becomes another one: what it was.");
        PitchMarks p = new PitchMarks();
        p.cycles(4, 8, 2);
        due("the last one", -4, p.poke(7, 127));
        due("what it was", 127, p.poke(7, -128));
        due("what it was", -128, p.poke(7, 5));
        due("the first one", 8, p.poke(0, 1));
        row("the others stay", all(8, p::sample), 1, 4, 0, -4, 8, 4, 0, 5);
        PitchMarks q = Signals.plain();
        due("diff(1, 4)", 0, q.diff(1, 4));
        q.poke(11, -6);
        due("diff(1, 4)", 2, q.diff(1, 4));
        promise(6, "NOT: there is none such");
        PitchMarks none = new PitchMarks();
        refused("poke(0, 0)", none, NOT, () -> none.poke(0, 0));
        for (int i : outside(8)) {
            refused("poke(" + i + ", 5)", p, NOT, () -> p.poke(i, 5));
        }
        p.cut(1);
        refused("poke of one that went", p, NOT, () -> p.poke(7, 5));
        promise(6, "not -128 to 127");
        for (int v : new int[] {-129, 128, MIN, MAX}) {
            refused("poke(7, " + v + ")", q, NOT, () -> q.poke(7, v));
        }
    }

    private static void cut() {
        promise(7, "The last n SAMPLES go: SAMPLES then.");
        PitchMarks p = new PitchMarks();
        p.cycles(4, 8, 2);
        due("cut(0)", 8, p.cut(0));
        due("cut(3)", 5, p.cut(3));
        row("the first ones stay", all(5, p::sample), 8, 4, 0, -4, 8);
        noSuch("sample(5)", () -> p.sample(5));
        p.noise(0, 1, 0);
        due("new ones come behind those that stay", 0, p.sample(5));
        due("all go", 0, p.cut(6));
        due("none go", 0, p.cut(0));
        PitchMarks q = Signals.plain();
        due("FRAMES", 2, q.count(1));
        q.cut(7);
        due("FRAMES", 1, q.count(1));
        due("cost(0)", 16, q.cost(0));
        promise(7, "NOT: there are not so many");
        refused("cut(1)", p, NOT, () -> p.cut(1));
        refused("cut(18)", q, NOT, () -> q.cut(18));
        refused("cut(MAX)", q, NOT, () -> q.cut(MAX));
        promise(7, "n below 0");
        refused("cut(-1)", q, NOT, () -> q.cut(-1));
        refused("cut(MIN)", q, NOT, () -> q.cut(MIN));
    }

    private static void sample() {
        promise(8, "x(i). NoSuchElementException: there is none.");
        PitchMarks p = new PitchMarks();
        for (int i : outside(0)) {
            noSuch("sample(" + i + ")", () -> p.sample(i));
        }
        p.cycles(4, 8, 1);
        row("sample", all(4, p::sample), 8, 4, 0, -4);
        for (int i : outside(4)) {
            noSuch("sample(" + i + ")", () -> p.sample(i));
        }
        PitchMarks full = new PitchMarks();
        full.cycles(16, 1, 50);
        due("the last of 800", 0, full.sample(799));
        for (int i : outside(800)) {
            noSuch("sample(" + i + ")", () -> full.sample(i));
        }
    }

    private static void bounds() {
        for (int what = 2; what <= 15; what++) {
            term(BOUNDS[what - 2]);
            PitchMarks p = new PitchMarks();
            due("at first", FIRST[what - 2], p.count(what));
            // so that LOW and HIGH may take all their numbers
            if (what == 4) {
                p.bound(5, 48);
            }
            if (what == 5) {
                p.bound(4, 2);
            }
            refusedBound(p, what, LEAST[what - 2] - 1);
            refusedBound(p, what, MOST[what - 2] + 1);
            due("the least one", FIRST[what - 2], p.bound(what, LEAST[what - 2]));
            due("the most", LEAST[what - 2], p.bound(what, MOST[what - 2]));
            due("the same again", MOST[what - 2], p.bound(what, MOST[what - 2]));
            refusedBound(p, what, MIN);
            refusedBound(p, what, MAX);
            due("still the most", MOST[what - 2], p.count(what));
        }
        term("LOW (2 to 47, below HIGH; 4)");
        PitchMarks p = new PitchMarks();
        refusedBound(p, 4, 25);
        refusedBound(p, 4, 24);
        due("LOW just below HIGH", 4, p.bound(4, 23));
        refusedBound(p, 5, 23);
        refusedBound(p, 5, 22);
        due("HIGH just above LOW", 24, p.bound(5, 48));
        due("HIGH just above LOW", 48, p.bound(5, 24));
        due("LOW", 23, p.bound(4, 2));
        due("HIGH", 24, p.bound(5, 3));
        refusedBound(p, 4, 3);
    }

    private static void refusedBound(PitchMarks p, int what, int v) {
        refused("bound(" + what + ", " + v + ")", p, NOT, () -> p.bound(what, v));
    }

    private static void boundsRefused() {
        promise(9, "A BOUND (numbered as in count(), 2 to 15): what it was.");
        PitchMarks p = new PitchMarks();
        p.bound(5, 30);
        int[] now = {9, 21, 5, 30, 401, 4, 5, 501, 11, 151, 201, 4, 1, 61};
        for (int what = 2; what <= 15; what++) {
            due("bound " + what, what == 5 ? 30 : FIRST[what - 2], p.bound(what, now[what - 2]));
        }
        row("each for itself", all(14, i -> p.count(2 + i)), now);
        promise(9, "NOT: no such one, not as told.");
        for (int what : new int[] {1, 0, 16, 17, -1, -2, MIN, MAX}) {
            refusedBound(p, what, 20);
        }
        PitchMarks q = Signals.busy();
        refusedBound(q, 2, 7);
        refusedBound(q, 1, 7);
    }

    private static void count() {
        promise(10, "0 SAMPLES, 1 FRAMES, 2 HOP, 3 WIDE, 4 LOW, 5 HIGH, 6 DEEP, 7 BEST, 8 LEAN, 9 QUIET, 10 JUMP, 11 OCTAVE, "
                + "12 VOICE, 13 STRAY, 14 FLOOR, 15 MISS, 16 bytes of the tape, 17 lags of THE TUNE.");
        row("count of a new one", all(18, new PitchMarks()::count), 0, 0, 10, 20, 4, 24, 400, 3, 4, 500, 10, 150, 200, 3,
                0, 60, 0, 0);
        PitchMarks p = Signals.busy();
        row("count", all(18, p::count), 78, 9, 8, 4, 2, 5, 400, 3, 4, 500, 10, 150, 200, 3, 0, 60, 20, 2);
        promise(10, "NoSuchElementException: another what.");
        for (int what : outside(18)) {
            noSuch("count(" + what + ")", () -> p.count(what));
        }
    }
}
