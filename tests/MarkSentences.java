/** Sentences on marks, gaps and the signal set anew: promises 41 to 49. */
final class MarkSentences extends Sentences {
    private MarkSentences() {
    }

    static void tell() {
        periods();
        firstMarks();
        nextMarks();
        lastMarks();
        worth();
        likeMarks();
        marks();
        near();
        behind();
        gapsOfOneSpan();
        gaps();
        rough();
        roughest();
        mean();
        places();
        grasps();
        parts();
        otherSamples();
        anewRefused();
    }

    private static int[] marksOf(PitchMarks p) {
        return all(p.marks(), p::mark);
    }

    private static void periods() {
        term("P at a SAMPLE of it: the lag of that FRAME of it which STARTS latest, but not behind that SAMPLE.");
        PitchMarks p = Signals.gliding();
        p.bound(13, 20);
        row("lag", all(6, p::lag), 4, 4, 4, 5, 5, 5);
        // at 24, where FRAME 3 STARTS, P is 5 already
        row("marks", marksOf(p), 0, 4, 8, 12, 16, 20, 24, 29, 34, 39, 44);
        due("no MARK strays", 6 * 8 + 5 * 10, p.span(0, 6));
        // -4 0 4 8, then -6 -2 2 10 6: at 23 P is still 4
        int[] x = new int[54];
        int[] four = {-4, 0, 4, 8};
        int[] five = {-6, -2, 2, 10, 6};
        for (int i = 0; i < x.length; i++) {
            x[i] = i < 24 ? four[i % 4] : five[(i - 24) % 5];
        }
        PitchMarks q = Signals.told(Signals.made(5), x);
        q.bound(13, 20);
        row("lag", all(6, q::lag), 4, 4, 4, 5, 5, 5);
        row("marks", marksOf(q), 3, 7, 11, 15, 19, 23, 27, 32, 37, 42, 47);
        due("no MARK strays", 6 * 8 + 5 * 10, q.span(0, 6));
    }

    private static void firstMarks() {
        term("The first MARK is one of the first P SAMPLES of the SPAN (P at its first one).");
        row("the last of these", marksOf(Signals.turned()), 3, 7, 11, 15, 19, 23, 27, 31);
        // -1 to -8 twice, then silence: a first MARK at 8 would be worth more
        PitchMarks low = Signals.told(Signals.made(9), -1, -2, -3, -4, -5, -6, -7, -8, -1, -2, -3, -4, -5, -6, -7, -8, 0, 0, 0, 0, 0, 0);
        low.bound(2, 40);
        due("lag", 8, low.lag(0));
        row("not the next one", marksOf(low), 0, 8, 16);
        due("worth", -2, low.span(0, 6));
        // a SPAN that has fewer SAMPLES than P
        PitchMarks lone = Signals.lone();
        row("one of eight", marksOf(lone), 0);
        lone.poke(7, 127);
        due("lag", 20, lone.lag(0));
        row("the last of the SPAN", marksOf(lone), 7);
        lone.poke(7, 0);
        lone.poke(8, 127);
        due("lag", 20, lone.lag(0));
        row("not behind the SPAN", marksOf(lone), 0);
        lone.bound(2, 9);
        row("8 is in a SPAN of 9", marksOf(lone), 8);
        lone.bound(2, 8);
        row("and not in one of 8", marksOf(lone), 0);
    }

    private static void nextMarks() {
        term("Behind a MARK m comes one from m and P less P by 4 to m and P and P by 4 (P at m), in the SPAN");
        PitchMarks p = Signals.free(40);
        p.poke(18, 100);
        row("10 behind", marksOf(p), 0, 8, 18, 24, 30, 36);
        p.poke(18, 0);
        p.poke(19, 100);
        row("not 11 behind", marksOf(p), 0, 9, 19, 25, 31, 37);
        p.poke(19, 0);
        p.poke(14, 100);
        row("6 behind", marksOf(p), 0, 8, 14, 20, 26, 32, 38);
        p.poke(14, -4);
        p.poke(18, 100);
        p.poke(23, 60);
        row("not 5 behind", marksOf(p), 0, 8, 18, 24, 30, 36);
        p.poke(24, 60);
        due("6 behind", 24, p.mark(3));
        // P by 4 goes downwards: nothing for lag 3, 1 for lag 7
        PitchMarks three = Signals.pure(4, 3, 9, 4);
        three.bound(2, 40);
        three.bound(13, 0);
        three.poke(10, 50);
        due("lag", 3, three.lag(0));
        row("3 behind alone", marksOf(three), 1, 4, 7, 10);
        PitchMarks seven = Signals.pure(8, 7, 14, 3);
        seven.bound(2, 40);
        seven.bound(13, 0);
        seven.poke(16, 100);
        due("lag", 7, seven.lag(0));
        row("9 behind is too far", marksOf(seven), 0, 8, 16);
        seven.poke(16, 10);
        seven.poke(15, 100);
        row("8 behind", marksOf(seven), 0, 7, 15);
    }

    private static void lastMarks() {
        term("as long as there is such a SAMPLE, there is one");
        PitchMarks p = Signals.free(40);
        for (int i = 14; i < 40; i++) {
            p.poke(i, -100);
        }
        row("though they are worth nothing", marksOf(p), 0, 8, 14, 24, 34);
        due("worth", 16 - 300, p.span(0, 6));
        PitchMarks ends = Signals.free(40);
        ends.poke(18, 100);
        ends.poke(28, 100);
        ends.poke(38, 100);
        row("the next one would be 44", marksOf(ends), 0, 8, 18, 28, 38);
        ends.poke(38, 0);
        ends.poke(39, 100);
        due("the last SAMPLE of the SPAN", 39, ends.near(100));
        ends.noise(0, 5, 0);
        ends.poke(39, 0);
        ends.poke(40, 100);
        due("just behind the SPAN", 1, ends.near(100) < 40 ? 1 : 0);
        due("the SPAN", 40, ends.span(0, 4));
    }

    private static void worth() {
        term("WORTH: x at each MARK, together, less STRAY for each 1 by which a MARK is off the one ahead and P there.");
        PitchMarks p = Signals.free(38);
        p.poke(18, 100);
        due("STRAY 0", 116, p.span(0, 6));
        p.bound(13, 1);
        row("2 off", marksOf(p), 0, 8, 18, 26, 34);
        due("STRAY 1", 114, p.span(0, 6));
        p.bound(13, 20);
        due("STRAY 20: 2 and 10, so that 18 isn't off", 4 + 4 + 100, p.span(0, 6));
        p.poke(18, 9);
        row("17 by 2 10 18, 16 by 0 8 16", marksOf(p), 2, 10, 18, 26, 34);
        p.poke(18, 7);
        row("15 by 2 10 18, 16 by 0 8 16", marksOf(p), 0, 8, 16, 24, 32);
        due("of no SPAN that is voiced", 0, Signals.two().span(1, 6));
        PitchMarks early = Signals.free(40);
        early.poke(14, 100);
        early.bound(13, 2);
        due("2 off, to the other side", 8 + 8 + 100 - 4, early.span(0, 6));
    }

    private static void likeMarks() {
        term("MARKS are those of most WORTH (of like ones at the first MARK in which they are unlike the lesser SAMPLE).");
        PitchMarks p = Signals.free(40);
        row("silence behind 16", marksOf(p), 0, 8, 16, 22, 28, 34);
        PitchMarks two = Signals.two();
        // 20 and 23, or 21: worth the same
        row("20, though the end is then 23", marksOf(two), 0, 4, 8, 12, 16, 20, 23, 48, 53, 58, 63, 68);
        PitchMarks flat = Signals.told(Signals.made(5), 5, 5, 5, 0, 5, 5, 5, 0, 5, 5);
        due("lag", 4, flat.lag(0));
        flat.bound(13, 0);
        // 0 4 7, 0 5 and 1 5 are worth 10, too
        row("the first of like ones", marksOf(flat), 0, 3, 6);
        due("worth", 10, flat.span(0, 6));
        term("MARKS of all SPANS are numbered from 0 on, rising.");
        due("the last of the first SPAN", 23, two.mark(6));
        due("the first of the next voiced one", 48, two.mark(7));
    }

    private static void marks() {
        promise(41, "How many MARKS.");
        due("of two SPANS", 12, Signals.two().marks());
        due("a single one", 1, Signals.lone().marks());
        due("no FRAMES", 0, new PitchMarks().marks());
        PitchMarks quiet = Signals.two();
        quiet.bound(9, 0);
        due("all UNVOICED", 0, quiet.marks());
        PitchMarks most = Signals.pure(3, 2, 60, 50);
        for (int i = 0; i < 7; i++) {
            most.cycles(2, 60, 50);
        }
        due("lag 2 in 800 SAMPLES", 400, most.marks());
        due("the last one", 798, most.mark(399));
        promise(42, "The i-th MARK. NoSuchElementException: there is none.");
        PitchMarks p = Signals.two();
        due("the first one", 0, p.mark(0));
        due("the last one", 68, p.mark(11));
        for (int i : outside(12)) {
            noSuch("mark(" + i + ")", () -> p.mark(i));
        }
        noSuch("of none", () -> quiet.mark(0));
        noSuch("of no FRAMES", () -> new PitchMarks().mark(0));
    }

    private static void near() {
        promise(43, "The MARK nearest to a place (any number; of two the lesser); NONE: none.");
        PitchMarks p = Signals.two();
        due("on it", 4, p.near(4));
        due("2 from 0 and from 4", 0, p.near(2));
        due("3", 4, p.near(3));
        due("12 from 23, 13 from 48", 23, p.near(35));
        due("13 from 23, 12 from 48", 48, p.near(36));
        due("ahead of all", 0, p.near(-1));
        due("behind all", 68, p.near(1000));
        due("the least number", 0, p.near(MIN));
        due("the next one", 0, p.near(MIN + 1));
        due("the greatest number", 68, p.near(MAX));
        due("the next one", 68, p.near(MAX - 1));
        p.bound(9, 0);
        due("none", NONE, p.near(0));
        due("no FRAMES", NONE, new PitchMarks().near(0));
    }

    private static void behind() {
        promise(44, "The first MARK behind a place, but not on it; NONE: none.");
        PitchMarks p = Signals.two();
        due("just ahead of it", 0, p.behind(-1));
        due("on it", 4, p.behind(0));
        due("between two SPANS", 48, p.behind(23));
        due("just ahead of the last one", 68, p.behind(67));
        due("on the last one", NONE, p.behind(68));
        due("the least number", 0, p.behind(MIN));
        due("the greatest number", NONE, p.behind(MAX));
        p.bound(9, 0);
        due("none", NONE, p.behind(-1));
        due("no FRAMES", NONE, new PitchMarks().behind(-1));
    }

    private static void gapsOfOneSpan() {
        PitchMarks p = Signals.two();
        term("GAPS are those between two MARKS side by side in one SPAN.");
        due("6 and 4, and none between the SPANS", 10, p.gaps(0));
        due("not from 23 to 48", 5, p.gaps(3));
        term("JITTER: how much GAPS side by side in one SPAN are apart, together.");
        // 4 4 4 4 4 3, 5 5 5 5
        due("1, and not the 2 from 3 to 5", 1, p.gaps(1));
        PitchMarks q = Signals.free(40);
        q.poke(18, 100);
        // 8 10 6 6 6
        due("2 and 4", 6, q.gaps(1));
        term("SHIMMER: how much x of two MARKS side by side in one SPAN are apart, together.");
        // 8 and -4; all others are like
        due("12, and not the 14 from -4 to 10", 12, p.gaps(2));
        due("92 and 100", 192, q.gaps(2));
        q.poke(18, 0);
        q.poke(19, 100);
        // 8 6 100 0
        due("2 and 94 and 100", 196, q.gaps(2));
    }

    private static void gaps() {
        promise(45, "how many (what 0), JITTER (1), SHIMMER (2), the longest (3; NONE), the shortest (4; NONE).");
        row("gaps", all(5, Signals.two()::gaps), 10, 1, 12, 5, 3);
        row("a single MARK", all(5, Signals.lone()::gaps), 0, 0, 0, NONE, NONE);
        row("no FRAMES", all(5, new PitchMarks()::gaps), 0, 0, 0, NONE, NONE);
        PitchMarks one = Signals.pure(8, 7, 14, 2);
        row("two MARKS", marksOf(one), 0, 7);
        row("one GAP", all(5, one::gaps), 1, 0, 0, 7, 7);
        promise(45, "NoSuchElementException: another what.");
        for (int what : outside(5)) {
            noSuch("gaps(" + what + ")", () -> one.gaps(what));
            noSuch("of none", () -> new PitchMarks().gaps(what));
        }
    }

    private static void rough() {
        promise(46, "for as many SAMPLES as the GAP between both (x is 0, where there is no SAMPLE), together");
        PitchMarks p = Signals.two();
        // 8 4 0 from 20, and -4 0 0 from 23
        due("12 and 4 and 0", 16, p.rough(5));
        due("four that are alike", 0, p.rough(0));
        PitchMarks end = Signals.pure(5, 4, 8, 13);
        end.bound(2, 40);
        int last = end.marks() - 1;
        due("the last MARK is on the last SAMPLE", 51, end.mark(last));
        due("the one ahead", 48, end.mark(last - 1));
        end.poke(50, 5);
        // 8 4 5 from 48, and -4, and nothing, from 51
        due("12 and 4 and 5", 21, end.rough(last - 1));
        PitchMarks wide = Signals.free(40);
        wide.poke(18, 100);
        wide.poke(15, 0);
        wide.poke(14, 0);
        // 8 to 17 is 8 6 4 2 0 -2 0 0 0 0; 18 to 27 is 100 and silence
        due("92 and 6 and 4 and 2 and 2", 106, wide.rough(1));
        promise(46, "NONE: it is the last of its SPAN.");
        due("of the first SPAN", NONE, p.rough(6));
        due("of all", NONE, p.rough(11));
        due("a single one", NONE, Signals.lone().rough(0));
        promise(46, "NoSuchElementException: there is no such MARK.");
        for (int i : outside(12)) {
            noSuch("rough(" + i + ")", () -> p.rough(i));
        }
        noSuch("of no FRAMES", () -> new PitchMarks().rough(0));
    }

    private static void roughest() {
        promise(47, "The ROUGHEST MARK (its number; of like ones the first); NONE: none is.");
        due("roughest", 5, Signals.two().roughest());
        due("of like ones, all 0, the first", 0, Signals.smooth().roughest());
        due("a single MARK", NONE, Signals.lone().roughest());
        due("no FRAMES", NONE, new PitchMarks().roughest());
        PitchMarks same = Signals.twins();
        row("two MARKS that are as ROUGH", new int[] {same.rough(5), same.rough(12)}, 16, 16);
        due("the first one", 5, same.roughest());
    }

    private static void mean() {
        promise(48, "The mean of all GAPS, in lowest terms, above the line (down false), below it.");
        PitchMarks p = Signals.two();
        due("43 by 10", 43, p.mean(false));
        due("43 by 10", 10, p.mean(true));
        due("16 by 4", 4, Signals.smooth().mean(false));
        due("16 by 4", 1, Signals.smooth().mean(true));
        PitchMarks half = Signals.gliding();
        // six GAPS of 4, four of 5: 44 by 10
        due("44 by 10", 22, half.mean(false));
        due("44 by 10", 5, half.mean(true));
        PitchMarks one = Signals.pure(8, 7, 14, 2);
        due("a single GAP of 7", 7, one.mean(false));
        due("a single GAP of 7", 1, one.mean(true));
        promise(48, "NoSuchElementException: there are none.");
        for (boolean down : new boolean[] {false, true}) {
            noSuch("a single MARK", () -> Signals.lone().mean(down));
            noSuch("no FRAMES", () -> new PitchMarks().mean(down));
        }
    }

    private static void places() {
        term("SET ANEW by a to b (1 to 4 each): in each voiced SPAN places: the first at its first MARK");
        PitchMarks turned = Signals.turned();
        // the first MARK is 3, and GRASP is 4: -4 times 2 by 4 at 1, 4 times 3 by 4 at 2
        row("nothing ahead of it", all(4, i -> turned.anew(1, 1, i)), 0, -2, 3, 8);
        term("behind a place n the next one: n and (GRASP of its MARK times a by b, but 1 at least), as long as that is in the SPAN.");
        PitchMarks p = Signals.two();
        // at 3 are two parts, each downwards by itself: -4 by 4, and -4 times 3 by 4
        row("each MARK", all(8, i -> p.anew(1, 1, i)), 8, 4, 0, -4, 8, 4, 0, -4);
        row("8 apart", all(8, i -> p.anew(2, 1, i)), 8, 3, 0, -1, 0, 1, 0, -3);
        PitchMarks fast = Signals.pure(3, 2, 60, 20);
        due("lag", 2, fast.lag(0));
        // GRASP 2 by 4 is nothing: places are 1 apart all the same
        row("1 at least", all(4, i -> fast.anew(1, 4, i)), 60, 60, 60, 60);
        PitchMarks lone = Signals.lone();
        // GRASP is 20: by 1 to 4 places are 0 and 5, by 2 to 4 only 0
        due("0 and 5 are in the SPAN", 19 + 72, lone.anew(1, 4, 7));
        due("10 isn't", 19, lone.anew(2, 4, 7));
        lone.bound(2, 11);
        due("10 is in one of 11", 100, lone.anew(2, 4, 10));
        // places 0 8 16: one at 24, just behind the SPAN, would bring x(21) times 1 by 3 to 22
        due("24 isn't in a SPAN to 24", 0, p.anew(2, 1, 22));
        term("The MARK of a place: that of the SPAN which is nearest (of two the lesser).");
        PitchMarks unlike = Signals.pure(5, 4, 80, 6);
        unlike.poke(4, 90);
        row("marks", marksOf(unlike), 0, 4, 8, 12, 15);
        // places are 0, 2, 4 ..: that at 2 has x(0), with nothing of 0 and 4, as x(2) is 0
        due("2 from 0 and from 4", 80, unlike.anew(1, 2, 2));
        due("2 from 4 and from 8", 90, unlike.anew(1, 2, 6));
    }

    private static void grasps() {
        term("GRASP of a MARK: the GAP behind it; of the last one of a SPAN the GAP ahead of it; of a single one P there.");
        PitchMarks one = Signals.lone();
        due("of a single one 20: 50 times 15 by 20", 37, one.anew(1, 1, 5));
        due("30 times 13 by 20", 19, one.anew(1, 1, 7));
        PitchMarks gap = Signals.free(22);
        gap.poke(15, 20);
        gap.poke(18, 100);
        gap.poke(19, 90);
        gap.poke(20, 80);
        row("marks", marksOf(gap), 0, 8, 18);
        // of 8 it is the GAP behind it, 10; of 18 that ahead of it, 10, too
        due("20 times 3 by 10, and 20 times 7 by 10", 6 + 14, gap.anew(1, 1, 15));
        due("90 times 9 by 10", 81, gap.anew(1, 1, 19));
        due("80 times 8 by 10", 64, gap.anew(1, 1, 20));
        PitchMarks pair = Signals.told(Signals.made(9), 80, 60, 40, 20, 0, -20, -40, -60, 80, 60, 90, 20, 0, -20);
        pair.bound(2, 40);
        pair.bound(13, 0);
        due("lag", 8, pair.lag(0));
        row("marks", marksOf(pair), 0, 10);
        due("of the last of two it is 10, not 8: 20 times 9 by 10", 18, pair.anew(1, 1, 11));
        // of 0 it is 8: 6 times 7 by 8, and of 8 it is 10: 6 times 3 by 10
        due("6 times 7 by 8, and 6 times 3 by 10", 5 + 1, gap.anew(1, 1, 1));
    }

    private static void parts() {
        term("of all places n of it that are less than GRASP off s, x(MARK and s less n) times (GRASP less what n is off s), by GRASP, "
                + "each for itself (x is 0, where there is no SAMPLE), together.");
        PitchMarks p = Signals.two();
        // -4 times 1 by 4 is -1, -4 times 3 by 4 is -3; 4 times 3 by 4 is 3, 4 times 1 by 4 is 1
        row("each for itself", all(4, i -> p.anew(1, 1, i)), 8, 4, 0, -4);
        PitchMarks odd = Signals.pure(5, 4, 7, 6);
        row("SAMPLES", all(4, odd::sample), 7, 4, 0, -3);
        // -3 times 1 by 4 is -0.75, -3 times 3 by 4 is -2.25
        due("-1 and -3", -4, odd.anew(1, 1, 3));
        // places 0, 2, 4: that at 2 has MARK 0, and x(-2) and x(-1) are 0
        PitchMarks plain = Signals.plain();
        due("x(0), and x(-2) times 2 by 4", 8, plain.anew(1, 2, 0));
        due("x(1) times 3 by 4, x(-1) times 3 by 4, x(1) times 1 by 4", 4, plain.anew(1, 2, 1));
        behindTheSignal();
    }

    /** A place whose MARK lies behind it, near the end of THE SIGNAL. */
    private static void behindTheSignal() {
        PitchMarks end = Signals.free(30);
        for (int i = 20; i < 30; i++) {
            end.poke(i, 99);
        }
        end.cut(10);
        end.poke(18, 100);
        end.poke(19, 50);
        row("marks", marksOf(end), 0, 8, 18);
        // by 2 to 1 places are 0 and 16, and 18 is the MARK of 16, its GRASP 10
        row("x(18), x(19) times 9 by 10, and no more", all(4, i -> end.anew(2, 1, 16 + i)), 100, 45, 0, 0);
    }

    private static void otherSamples() {
        term("At other SAMPLES it is x.");
        PitchMarks p = Signals.two();
        p.poke(30, 7);
        due("UNVOICED", 0, p.lag(3));
        due("UNVOICED", 7, p.anew(1, 2, 30));
        due("behind the last SPAN", 2, p.anew(2, 1, 75));
        due("just behind it", p.sample(72), p.anew(1, 2, 72));
        due("the last SAMPLE", p.sample(77), p.anew(4, 1, 77));
        PitchMarks none = new PitchMarks();
        none.cycles(4, 8, 2);
        row("no FRAMES", all(8, i -> none.anew(4, 1, i)), 8, 4, 0, -4, 8, 4, 0, -4);
    }

    private static void anewRefused() {
        promise(49, "THE SIGNAL SET ANEW by a to b at a SAMPLE. NoSuchElementException: there is none.");
        PitchMarks p = Signals.two();
        due("the first one", 8, p.anew(1, 1, 0));
        for (int i : outside(78)) {
            noSuch("anew(1, 1, " + i + ")", () -> p.anew(1, 1, i));
        }
        noSuch("no SAMPLES", () -> new PitchMarks().anew(1, 1, 0));
        promise(49, "IllegalArgumentException (behind that): a, b.");
        for (int other : new int[] {0, 5, -1, MIN, MAX}) {
            illegal("anew(" + other + ", 1, 0)", () -> p.anew(other, 1, 0));
            illegal("anew(1, " + other + ", 0)", () -> p.anew(1, other, 0));
            illegal("where it is x", () -> p.anew(1, other, 77));
            noSuch("anew(" + other + ", 1, 78)", () -> p.anew(other, 1, 78));
            noSuch("anew(1, " + other + ", -1)", () -> p.anew(1, other, -1));
        }
        for (int each = 1; each <= 4; each++) {
            due("as told", 7, Signals.told(new PitchMarks(), 7).anew(each, 5 - each, 0));
        }
    }
}
