/** Signals whose answers can be told by hand. */
final class Signals {
    private Signals() {
    }

    /** HOP 8, WIDE 4, lags from 2 on. */
    static PitchMarks made(int high) {
        PitchMarks p = new PitchMarks();
        p.bound(2, 8);
        p.bound(3, 4);
        p.bound(4, 2);
        p.bound(5, high);
        return p;
    }

    /** So many cycles, behind made(high). */
    static PitchMarks pure(int high, int period, int height, int times) {
        PitchMarks p = made(high);
        p.cycles(period, height, times);
        return p;
    }

    /** These SAMPLES, by the tape. */
    static PitchMarks told(PitchMarks p, int... x) {
        for (int at = 0; at < x.length; at += 20) {
            p.feed(number(x, at), number(x, at + 4), number(x, at + 8), number(x, at + 12), number(x, at + 16));
        }
        p.samples(x.length);
        return p;
    }

    private static int number(int[] x, int from) {
        int n = 0;
        for (int i = from; i < from + 4; i++) {
            n = n << 8 | (i < x.length ? x[i] & 255 : 0);
        }
        return n;
    }

    /** 8 4 0 -4, six times: FRAMES 0 and 1, lag 4 in both. */
    static PitchMarks plain() {
        return pure(5, 4, 8, 6);
    }

    /** Three FRAMES of lag 4, three of silence, three of lag 5; 78 SAMPLES. */
    static PitchMarks two() {
        PitchMarks p = plain();
        p.noise(0, 24, 0);
        p.cycles(5, 10, 6);
        return p;
    }

    /** Lags 3, 3, 3, 5, 5, 5: an octave lies between them, as 5 is twice 3 less 1. */
    static PitchMarks octave() {
        PitchMarks p = pure(5, 3, 9, 8);
        p.cycles(5, 10, 6);
        return p;
    }

    /** A FRAME of each of these lags (0: silence), with no other one to choose, 40 SAMPLES each. */
    static PitchMarks ofLags(int... lags) {
        PitchMarks p = made(12);
        p.bound(2, 40);
        p.bound(7, 1);
        p.bound(9, 2000);
        for (int lag : lags) {
            int end = p.count(0) + 40;
            if (lag == 0) {
                p.noise(0, 40, 0);
            } else {
                p.cycles(lag, 60, 1 + 40 / lag);
            }
            p.cut(p.count(0) - end);
        }
        return p;
    }

    /** Lags 4, 4, 4, 5, 5, 5. */
    static PitchMarks gliding() {
        PitchMarks p = plain();
        p.cycles(5, 10, 6);
        return p;
    }

    /** Two SPANS of lag 4 with silence between and behind them, each like the other. */
    static PitchMarks twins() {
        PitchMarks p = plain();
        p.noise(0, 24, 0);
        p.cycles(4, 8, 6);
        p.noise(0, 10, 0);
        return p;
    }

    /** 8 4 0 -4 9 4 0 -4, five times: 8 is the period, 4 is nearly one; four FRAMES. */
    static PitchMarks twice() {
        PitchMarks p = made(10);
        int a = 0x080400fc;
        int b = 0x090400fc;
        p.feed(a, b, a, b, a);
        p.feed(b, a, b, a, b);
        p.samples(40);
        p.bound(8, 0);
        return p;
    }

    /** A silent FRAME, then lag 4 in four of them; to be UNVOICED is cheap. */
    static PitchMarks late() {
        PitchMarks p = made(5);
        p.noise(0, 8, 0);
        p.cycles(4, 8, 9);
        p.bound(9, 100);
        p.bound(12, 150);
        return p;
    }

    /** A silent FRAME, then lag 4 in many of them: voice saves 1 a FRAME, and its beginning costs 21. */
    static PitchMarks longWait() {
        PitchMarks p = made(5);
        p.noise(0, 8, 0);
        p.cycles(4, 8, 50);
        p.bound(9, 17);
        p.bound(12, 21);
        return p;
    }

    /** One FRAME of lag 20, whose SPAN has 8 SAMPLES and so a single MARK. */
    static PitchMarks lone() {
        PitchMarks p = pure(20, 20, 100, 2);
        p.cut(8);
        return p;
    }

    /** 0 -4 4 8, ten times. */
    static PitchMarks turned() {
        PitchMarks p = made(5);
        int cycle = 0x00fc0408;
        p.feed(cycle, cycle, cycle, cycle, cycle);
        p.feed(cycle, cycle, cycle, cycle, cycle);
        p.samples(40);
        return p;
    }

    /** One FRAME of lag 8 that SAMPLES from 14 on do not touch, and so many SAMPLES of its SPAN in all. */
    static PitchMarks free(int samples) {
        PitchMarks p = pure(9, 8, 8, 2);
        p.bound(2, 40);
        p.bound(13, 0);
        p.noise(0, samples - 16, 0);
        return p;
    }

    /** All GAPS are 4, and no MARK is rough. */
    static PitchMarks smooth() {
        PitchMarks p = pure(5, 4, 8, 7);
        p.bound(2, 21);
        return p;
    }

    /** A FRAME of silence and one of lag 2 in turn, none of which touches another: as many SPANS as can be. */
    static PitchMarks mostSpans() {
        PitchMarks p = made(3);
        int[] x = new int[400];
        for (int i = 0; i < x.length; i++) {
            x[i] = i % 16 < 8 ? 0 : 60 * (1 - i % 2);
        }
        p.bound(9, 200);
        p.bound(12, 0);
        told(p, x);
        return told(p, x);
    }

    /** Lag 2 in 800 SAMPLES, and so all even lags, up to 10: five DIPS in each of 99 FRAMES. */
    static PitchMarks mostCandidates() {
        PitchMarks p = made(10);
        p.bound(7, 5);
        for (int i = 0; i < 8; i++) {
            p.cycles(2, 60, 50);
        }
        return p;
    }

    /** Lags 2 and 4 in turn, with no other ones to choose: each FRAME is a NOTE. */
    static PitchMarks mostNotes() {
        PitchMarks p = made(4);
        int[][] bounds = {{2, 9}, {7, 1}, {8, 0}, {10, 0}, {11, 0}};
        for (int[] b : bounds) {
            p.bound(b[0], b[1]);
        }
        int[] x = new int[396];
        int[][] cycles = {{60, 0, 60, 0}, {60, 30, 0, -30}};
        for (int i = 0; i < x.length; i++) {
            x[i] = cycles[i / 9 % 2][i % 9 % 4];
        }
        told(p, x);
        return told(p, x);
    }

    /** Some SAMPLES, bytes and lags of a tune, so that a change of any of them is seen. */
    static PitchMarks busy() {
        PitchMarks p = two();
        p.feed(1, 2, 3, 4, 5);
        p.tune(4);
        p.tune(7);
        return p;
    }

    /** What can be asked of BOUNDS, some SAMPLES, THE PATH, MARKS and THE TUNE, in few calls. */
    static String state(PitchMarks p) {
        StringBuilder s = new StringBuilder();
        for (int what = 0; what <= 17; what++) {
            s.append(p.count(what)).append(' ');
        }
        int n = p.count(0);
        for (int i : new int[] {0, n / 2, n - 2, n - 1}) {
            s.append(i < 0 || i >= n ? "" : p.sample(i)).append(' ');
        }
        s.append(p.cost(0)).append(' ').append(p.marks()).append(' ').append(p.match(0)).append(' ').append(p.best(1));
        return s.toString();
    }
}
