/** Sentences on spans, notes, lags and the tune: promises 29 to 40. */
final class SpanSentences extends Sentences {
    private SpanSentences() {
    }

    static void tell() {
        spans();
        spanEnds();
        span();
        notes();
        note();
        steady();
        lags();
        common();
        tune();
        matches();
        matchesInOrder();
        match();
        matched();
    }

    private static void spans() {
        term("SPANS: FRAMES side by side that THE PATH has voiced (by lags) all, or UNVOICED all, as many as can be; numbered from 0 on.");
        PitchMarks p = Signals.two();
        row("first FRAMES", all(3, i -> p.span(i, 0)), 0, 3, 6);
        row("how many FRAMES", all(3, i -> p.span(i, 1)), 3, 3, 3);
        row("voiced", all(3, i -> p.span(i, 2)), 1, 0, 1);
        PitchMarks glide = Signals.gliding();
        row("of two lags", all(2, i -> glide.span(0, i)), 0, 6);
        promise(29, "How many SPANS.");
        due("two voiced ones and one between", 3, p.spans());
        due("lags may change", 1, glide.spans());
        due("lags may change by an octave", 1, Signals.octave().spans());
        due("no FRAMES", 0, new PitchMarks().spans());
        p.bound(9, 0);
        due("all UNVOICED", 1, p.spans());
        due("one FRAME", 1, Signals.lone().spans());
        PitchMarks most = Signals.mostSpans();
        due("each FRAME", 100, most.spans());
        row("the last one", all(7, what -> most.span(99, what)), 99, 1, 1, 792, 800, 4, 240);
        row("the last but one", all(7, what -> most.span(98, what)), 98, 1, 0, 784, 792, 0, 0);
        due("marks", 200, most.marks());
    }

    private static void spanEnds() {
        term("A SPAN goes from the START of its first FRAME to HOP behind that of its last one (this SAMPLE isn't in it), no farther than THE SIGNAL goes.");
        PitchMarks p = Signals.two();
        row("first SAMPLES", all(3, i -> p.span(i, 3)), 0, 24, 48);
        row("SAMPLES behind", all(3, i -> p.span(i, 4)), 24, 48, 72);
        PitchMarks wide = Signals.pure(5, 4, 8, 13);
        wide.bound(2, 40);
        due("80 is behind THE SIGNAL", 52, wide.span(0, 4));
        wide.cut(2);
        due("as far as THE SIGNAL", 50, wide.span(0, 4));
        wide.cut(1);
        due("one FRAME less", 40, wide.span(0, 4));
        wide.cut(9);
        due("just THE SIGNAL", 40, wide.span(0, 4));
        wide.cut(1);
        due("one SAMPLE less", 39, wide.span(0, 4));
        // the SAMPLE behind it isn't in it, so that it isn't SET ANEW
        p.poke(24, 99);
        row("voiced up to", all(3, i -> p.span(i, 4)), 24, 48, 72);
        due("anew(1, 1, 24)", 99, p.anew(1, 1, 24));
        due("no MARK there", 23, p.near(24));
    }

    private static void span() {
        promise(30, "its first FRAME (what 0), how many FRAMES (1), 1 if voiced (2), its first SAMPLE (3), the SAMPLE behind its last one (4), "
                + "MARKS in it (5), their WORTH (6).");
        PitchMarks p = Signals.two();
        row("a voiced one", all(7, what -> p.span(0, what)), 0, 3, 1, 0, 24, 7, 41);
        row("an UNVOICED one", all(7, what -> p.span(1, what)), 3, 3, 0, 24, 48, 0, 0);
        row("a voiced one", all(7, what -> p.span(2, what)), 6, 3, 1, 48, 72, 5, 50);
        PitchMarks quiet = Signals.two();
        due("voiced", 41, quiet.span(0, 6));
        quiet.bound(9, 0);
        row("UNVOICED then", all(7, what -> quiet.span(0, what)), 0, 9, 0, 0, 72, 0, 0);
        promise(30, "NoSuchElementException: there is none, another what.");
        for (int i : outside(3)) {
            noSuch("span(" + i + ", 0)", () -> p.span(i, 0));
            noSuch("span(" + i + ", 6)", () -> p.span(i, 6));
        }
        for (int what : outside(7)) {
            noSuch("span(0, " + what + ")", () -> p.span(0, what));
        }
        for (int what = 0; what < 7; what++) {
            int each = what;
            noSuch("of no FRAMES", () -> new PitchMarks().span(0, each));
        }
    }

    private static void notes() {
        term("NOTES: in voiced SPANS FRAMES side by side of which each has a lag that is off that of the FRAME ahead by 1 at most, as many as can be");
        PitchMarks p = Signals.two();
        due("4, silence, 5", 2, p.notes());
        due("4 to 5", 1, Signals.ofLags(4, 5).notes());
        due("5 to 4", 1, Signals.ofLags(5, 4).notes());
        due("4 to 4", 1, Signals.ofLags(4, 4).notes());
        due("4 to 6", 2, Signals.ofLags(4, 6).notes());
        due("6 to 4", 2, Signals.ofLags(6, 4).notes());
        due("4 to 5 to 6, which are 2 apart in all", 1, Signals.ofLags(4, 5, 6).notes());
        due("the same lag, but in two SPANS", 2, Signals.ofLags(4, 0, 4).notes());
        due("4 to 5 and 7 to 8", 2, Signals.ofLags(4, 5, 7, 8).notes());
        due("7 is in the second one", 2, Signals.ofLags(4, 5, 7, 8).note(1, 0));
        term("its lag is the middle one of these (of two in the middle the lesser one).");
        due("4 5", 4, Signals.ofLags(4, 5).note(0, 2));
        due("5 4", 4, Signals.ofLags(5, 4).note(0, 2));
        due("6 5 4", 5, Signals.ofLags(6, 5, 4).note(0, 2));
        due("5 4 5 6", 5, Signals.ofLags(5, 4, 5, 6).note(0, 2));
        due("4 5 6 7", 5, Signals.ofLags(4, 5, 6, 7).note(0, 2));
        due("5 4 4", 4, Signals.ofLags(5, 4, 4).note(0, 2));
        due("one FRAME", 20, Signals.lone().note(0, 2));
        due("only its own FRAMES: 8 7 6, 4 5", 7, Signals.ofLags(8, 7, 6, 4, 5).note(0, 2));
        due("only its own FRAMES: 8 7 6, 4 5", 4, Signals.ofLags(8, 7, 6, 4, 5).note(1, 2));
    }

    private static void note() {
        promise(31, "How many NOTES.");
        due("no FRAMES", 0, new PitchMarks().notes());
        PitchMarks quiet = Signals.two();
        quiet.bound(9, 0);
        due("all UNVOICED", 0, quiet.notes());
        due("one", 1, Signals.plain().notes());
        promise(32, "Of a NOTE (0 on): its first FRAME (what 0), how many FRAMES (1), its lag (2).");
        PitchMarks p = Signals.two();
        row("the first one", all(3, what -> p.note(0, what)), 0, 3, 4);
        row("the last one", all(3, what -> p.note(1, what)), 6, 3, 5);
        row("in the midst of a SPAN", all(3, what -> Signals.octave().note(1, what)), 3, 3, 5);
        promise(32, "NoSuchElementException: there is none, another what.");
        for (int i : outside(2)) {
            noSuch("note(" + i + ", 0)", () -> p.note(i, 0));
        }
        for (int what : outside(3)) {
            noSuch("note(0, " + what + ")", () -> p.note(0, what));
            noSuch("of none", () -> quiet.note(0, what));
        }
        noSuch("of none", () -> quiet.note(0, 0));
        noSuch("of no FRAMES", () -> new PitchMarks().note(0, 0));
    }

    private static void steady() {
        promise(33, "in which THE PATH has one and the same lag (of like ones the first)");
        PitchMarks p = Signals.two();
        row("three and three", all(3, p::steady), 0, 3, 4);
        PitchMarks more = Signals.two();
        more.cycles(5, 10, 2);
        row("three and four", all(3, more::steady), 6, 4, 5);
        row("not a NOTE, but one lag", all(3, Signals.ofLags(4, 5, 5, 6)::steady), 1, 2, 5);
        row("side by side", all(3, Signals.ofLags(4, 5, 4, 5, 4)::steady), 0, 1, 4);
        row("not over UNVOICED", all(3, Signals.ofLags(4, 0, 4, 5, 5)::steady), 3, 2, 5);
        PitchMarks silent = Signals.plain();
        silent.noise(0, 100, 0);
        row("a longer row of UNVOICED is none of a lag", all(3, silent::steady), 0, 3, 4);
        promise(33, "its first FRAME (what 0; NONE: none), how many (1; 0), the lag (2; 0).");
        PitchMarks quiet = Signals.two();
        quiet.bound(9, 0);
        row("all UNVOICED", all(3, quiet::steady), NONE, 0, 0);
        row("no FRAMES", all(3, new PitchMarks()::steady), NONE, 0, 0);
        row("one FRAME", all(3, Signals.lone()::steady), 0, 1, 20);
        PitchMarks then = Signals.two();
        row("voiced", all(3, then::steady), 0, 3, 4);
        then.cut(62);
        row("two FRAMES less, asked again", all(3, then::steady), 0, 1, 4);
        promise(33, "NoSuchElementException: another what.");
        for (int what : outside(3)) {
            noSuch("steady(" + what + ")", () -> p.steady(what));
            noSuch("of none", () -> quiet.steady(what));
        }
    }

    private static void lags() {
        promise(34, "How many unlike lags THE PATH has.");
        due("4, UNVOICED, 5", 2, Signals.two().lags());
        due("4 and 4", 1, Signals.plain().lags());
        PitchMarks quiet = Signals.two();
        quiet.bound(9, 0);
        due("all UNVOICED", 0, quiet.lags());
        due("no FRAMES", 0, new PitchMarks().lags());
        promise(35, "Of the i-th of these, rising (0 on): the lag (what 0), in how many FRAMES it is (1).");
        PitchMarks more = Signals.two();
        more.cycles(5, 10, 2);
        row("lagAt", all(4, i -> more.lagAt(i / 2, i % 2)), 4, 3, 5, 4);
        PitchMarks down = Signals.ofLags(9, 0, 4, 9);
        row("rising, though 9 comes first", all(4, i -> down.lagAt(i / 2, i % 2)), 4, 1, 9, 2);
        promise(35, "NoSuchElementException: there is none, another what.");
        for (int i : outside(2)) {
            noSuch("lagAt(" + i + ", 0)", () -> down.lagAt(i, 0));
            noSuch("lagAt(0, " + i + ")", () -> down.lagAt(0, i));
        }
        noSuch("of none", () -> quiet.lagAt(0, 0));
        noSuch("of no FRAMES", () -> new PitchMarks().lagAt(0, 1));
    }

    private static void common() {
        promise(36, "The lag that is in most FRAMES (what 0; of like ones the lesser)");
        due("three of 4, three of 5", 4, Signals.two().common(0));
        due("9 and 4 and 5", 4, Signals.ofLags(9, 4, 5).common(0));
        PitchMarks more = Signals.two();
        more.cycles(5, 10, 2);
        due("three of 4, four of 5", 5, more.common(0));
        more.noise(0, 200, 0);
        due("most are UNVOICED", 5, more.common(0));
        promise(36, "the middle one of all voiced FRAMES' (1; of two in the middle the lesser)");
        due("4 4 4 5 5 5", 4, Signals.two().common(1));
        due("9 4 UNVOICED 5 8", 5, Signals.ofLags(9, 4, 0, 5, 8).common(1));
        due("one FRAME", 20, Signals.lone().common(1));
        due("9 4 UNVOICED 5", 5, Signals.ofLags(9, 4, 0, 5).common(1));
        due("4 4 4 5 5 5 5, and many UNVOICED", 5, more.common(1));
        promise(36, "NONE: none. NoSuchElementException: another what.");
        PitchMarks quiet = Signals.two();
        quiet.bound(9, 0);
        row("all UNVOICED", all(2, quiet::common), NONE, NONE);
        row("no FRAMES", all(2, new PitchMarks()::common), NONE, NONE);
        for (int what : outside(2)) {
            noSuch("common(" + what + ")", () -> more.common(what));
            noSuch("of none", () -> quiet.common(what));
        }
    }

    private static void tune() {
        promise(37, "A lag (1 to 48) comes behind THE TUNE: how many it has.");
        PitchMarks p = Signals.two();
        due("the least lag", 1, p.tune(1));
        due("the greatest lag", 2, p.tune(48));
        due("a lag that is there", 3, p.tune(1));
        promise(37, "NOT: another one, it has 12.");
        for (int lag : new int[] {0, 49, -1, MIN, MAX}) {
            refused("tune(" + lag + ")", p, NOT, () -> p.tune(lag));
        }
        for (int i = 4; i <= 12; i++) {
            due("tune", i, p.tune(5));
        }
        refused("the thirteenth", p, NOT, () -> p.tune(5));
        refused("another one, and full", p, NOT, () -> p.tune(49));
        term("THE TUNE has at most 12 lags, as told.");
        due("lags of THE TUNE", 12, p.count(17));
        PitchMarks most = Signals.mostNotes();
        row("each FRAME is a NOTE", new int[] {most.count(1), most.notes()}, 88, 88);
        for (int i = 0; i < 12; i++) {
            most.tune(4);
        }
        row("12 of them with 12 of 88 NOTES", all(2, most::match), 76 * 60, 12);
        row("those of lag 4", all(12, most::matched), 1, 3, 5, 7, 9, 11, 13, 15, 17, 19, 21, 23);
        most.hush();
        for (int i = 0; i < 12; i++) {
            most.tune(48);
        }
        row("none of them", all(2, most::match), 100 * 60, 0);
        due("the last one", NONE, most.matched(11));
        promise(38, "THE TUNE is empty: how many it had.");
        due("hush", 12, p.hush());
        due("hush", 0, p.hush());
        due("lags of THE TUNE", 0, p.count(17));
        noSuch("matched(0)", () -> p.matched(0));
        due("tune", 1, p.tune(5));
        due("the new one", 1, p.matched(0));
        due("THE SIGNAL stays", 78, p.count(0));
    }

    private static void matches() {
        term("a pair costs 10 for each 1 that the lags are apart, each one of THE TUNE and each NOTE that is in no pair MISS.");
        PitchMarks p = Signals.two();
        due("two NOTES, no TUNE", 120, p.match(0));
        p.tune(5);
        due("5, and a NOTE too many", 60, p.match(0));
        p.tune(5);
        due("5 with 4, 5 with 5", 10, p.match(0));
        p.tune(30);
        due("30 is in no pair", 70, p.match(0));
        due("two pairs", 2, p.match(1));
        p.bound(15, 0);
        due("MISS costs nothing", 0, p.match(0));
        p.bound(15, 500);
        due("30 with 5 rather than a third MISS", 10 + 500, p.match(0));
        p.hush();
        p.tune(30);
        p.tune(5);
        due("30 with 4, 5 with 5", 260, p.match(0));
        p.bound(15, 60);
        due("neither 30 nor 4", 120, p.match(0));
        row("5 with 5", all(2, p::matched), NONE, 1);
        PitchMarks none = new PitchMarks();
        none.tune(4);
        none.tune(4);
        due("no NOTES, two of THE TUNE", 120, none.match(0));
        PitchMarks full = Signals.pure(10, 3, 60, 8);
        full.bound(15, 500);
        for (int i = 0; i < 12; i++) {
            full.tune(48);
        }
        due("one NOTE of 3, twelve of 48", 11 * 500 + 450, full.match(0));
    }

    private static void matchesInOrder() {
        term("A MATCH pairs some of them with some NOTES, both in their order");
        PitchMarks p = Signals.two();
        p.tune(5);
        p.tune(4);
        due("5 with 4, 4 with 5, as they can't cross", 20, p.match(0));
        p.bound(15, 4);
        due("one pair, and two in none", 8, p.match(0));
        term("that costs less is ahead, of like ones that in which the first of THE TUNE that is otherwise has the lesser NOTE (none is behind all).");
        row("5 has the second NOTE, 4 none: not none and the first", all(2, p::matched), 1, NONE);
        p.bound(15, 10);
        row("two pairs of 10, or one and two of 10", all(2, p::matched), 0, 1);
        p.hush();
        p.tune(3);
        p.bound(15, 5);
        row("a pair costs as much as none", all(1, p::matched), 0);
        p.bound(15, 4);
        row("a pair costs more than none", all(1, p::matched), NONE);
        PitchMarks same = Signals.twins();
        same.tune(4);
        row("of two like NOTES the first", all(1, same::matched), 0);
        same.hush();
        same.tune(4);
        same.tune(4);
        same.tune(4);
        row("of three like ones the first two", all(3, same::matched), 0, 1, NONE);
    }

    private static void match() {
        promise(39, "The first MATCH: what it costs (what 0), how many pairs (1). NoSuchElementException: another what.");
        PitchMarks p = Signals.two();
        row("no TUNE", all(2, p::match), 120, 0);
        p.tune(5);
        row("5", all(2, p::match), 60, 1);
        p.tune(5);
        row("5 5", all(2, p::match), 10, 2);
        row("nothing at all", all(2, new PitchMarks()::match), 0, 0);
        for (int what : outside(2)) {
            noSuch("match(" + what + ")", () -> p.match(what));
            noSuch("of nothing", () -> new PitchMarks().match(what));
        }
    }

    private static void matched() {
        promise(40, "The NOTE that the first MATCH pairs with the i-th of THE TUNE (0 on); NONE: none. NoSuchElementException: there is none such.");
        PitchMarks p = Signals.two();
        for (int i : outside(0)) {
            noSuch("matched(" + i + ") of no TUNE", () -> p.matched(i));
        }
        p.tune(5);
        p.tune(5);
        p.tune(30);
        row("matched", all(3, p::matched), 0, 1, NONE);
        for (int i : outside(3)) {
            noSuch("matched(" + i + ")", () -> p.matched(i));
        }
        PitchMarks none = new PitchMarks();
        for (int i = 0; i < 12; i++) {
            none.tune(48 - i);
        }
        row("no NOTES", all(12, none::matched), NONE, NONE, NONE, NONE, NONE, NONE, NONE, NONE, NONE, NONE, NONE, NONE);
        noSuch("matched(12)", () -> none.matched(12));
    }
}
