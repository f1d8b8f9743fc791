import java.util.NoSuchElementException;

/** Pitch of a signal, and marks on its cycles; ../shared/DOC.md has the promises. */
public final class PitchMarks {
    public static final int NONE = -1;
    public static final int NOT = -1000;

    private static final int MOST_SAMPLES = 800;
    private static final int MOST_BYTES = 400;
    private static final int MOST_FRAMES = 100;
    private static final int MOST_CANDIDATES = 6;
    private static final int MOST_LAGS = 50;
    private static final int MOST_TUNE = 12;
    private static final int MOST_RANKS = 8;
    private static final int MOST_DELAY = 20;
    private static final int MOST_PRICE = 2000;
    private static final int BYTES_A_FEED = 20;
    private static final int UNVOICED = 0;

    private final Signal signal;
    private final Bounds bounds;
    private final Frames frames;
    private final Candidates choices;
    private final Paths paths;
    private final Ranking ranking;
    private final Spans parts;
    private final Notes melody;
    private final Marks beats;
    private final Tune score;
    private boolean pathKnown;
    private boolean rankingKnown;
    private boolean marksKnown;

    public PitchMarks() {
        signal = new Signal();
        bounds = new Bounds();
        frames = new Frames(signal, bounds);
        choices = new Candidates(frames, bounds);
        paths = new Paths(choices, bounds);
        ranking = new Ranking(choices, bounds);
        parts = new Spans(paths, signal, bounds);
        melody = new Notes(paths);
        beats = new Marks(parts, signal, bounds);
        score = new Tune(melody, bounds);
    }

    // ---- the signal

    public int feed(int a, int b, int c, int d, int e) {
        if (signal.tapeSize() + BYTES_A_FEED > MOST_BYTES) {
            return NONE;
        }
        signal.tapeNumber(a);
        signal.tapeNumber(b);
        signal.tapeNumber(c);
        signal.tapeNumber(d);
        signal.tapeNumber(e);
        return signal.tapeSize();
    }

    public int samples(int n) {
        if (n < 0 || n > signal.tapeSize() || !signal.hasRoom(n)) {
            return NOT;
        }
        int old = signal.size();
        signal.appendFromTape(n);
        return changedFrom(old, signal.size());
    }

    public int cycles(int period, int height, int times) {
        if (period < 2 || period > 48 || !isHeight(height) || times < 1 || times > 50
                || !signal.hasRoom(period * times)) {
            return NOT;
        }
        int old = signal.size();
        for (int t = 0; t < times; t++) {
            for (int k = 0; k < period; k++) {
                signal.append(height - quotient(2 * height * k, period));
            }
        }
        return changedFrom(old, signal.size());
    }

    public int noise(int seed, int n, int height) {
        if (n < 1 || n > 400 || !isHeight(height) || !signal.hasRoom(n)) {
            return NOT;
        }
        int old = signal.size();
        int state = seed;
        for (int i = 0; i < n; i++) {
            state = state * 1103515245 + 12345;
            signal.append(((state >>> 16) & 0x7fff) % (2 * height + 1) - height);
        }
        return changedFrom(old, signal.size());
    }

    public int poke(int i, int v) {
        if (!signal.has(i) || v < -128 || v > 127) {
            return NOT;
        }
        int old = signal.at(i);
        signal.put(i, v);
        changedFrom(i, i + 1);
        return old;
    }

    public int cut(int n) {
        if (n < 0 || n > signal.size()) {
            return NOT;
        }
        int old = signal.size();
        signal.drop(n);
        return changedFrom(signal.size(), old);
    }

    public int sample(int i) throws NoSuchElementException {
        need(signal.has(i));
        return signal.at(i);
    }

    // ---- bounds

    public int bound(int what, int v) {
        if (!bounds.allows(what, v)) {
            return NOT;
        }
        int old = bounds.of(what);
        bounds.put(what, v);
        if (what == Bounds.HOP || what == Bounds.WIDE || what == Bounds.HIGH) {
            frames.forgetAll();
        }
        forgetAnswers();
        return old;
    }

    public int count(int what) throws NoSuchElementException {
        need(what >= 0 && what <= 17);
        switch (what) {
            case 0:
                return signal.size();
            case 1:
                return frames.size();
            case 16:
                return signal.tapeSize();
            case 17:
                return score.size();
            default:
                return bounds.of(what);
        }
    }

    // ---- frames

    public int diff(int frame, int lag) throws NoSuchElementException {
        need(frames.has(frame) && isLag(lag));
        frames.measure(frame);
        return frames.diffAt(frame, lag);
    }

    public int rel(int frame, int lag) throws NoSuchElementException {
        need(frames.has(frame) && isLag(lag));
        frames.measure(frame);
        return frames.relAt(frame, lag);
    }

    public int loud(int frame) throws NoSuchElementException {
        need(frames.has(frame));
        frames.measure(frame);
        return frames.loudAt(frame);
    }

    public int candidates(int frame) throws NoSuchElementException {
        need(frames.has(frame));
        findPath();
        return choices.sizeOf(frame);
    }

    public int candidate(int frame, int i, int what) throws NoSuchElementException {
        findPath();
        need(choices.has(frame, i));
        need(what >= 0 && what <= 3);
        switch (what) {
            case 0:
                return choices.lagOf(frame, i);
            case 1:
                return choices.ownOf(frame, i);
            case 2:
                return choices.halfOf(frame, i);
            default:
                return choices.cheaperThan(frame, i);
        }
    }

    public int fine(int frame, int i, boolean down) throws NoSuchElementException {
        findPath();
        need(choices.has(frame, i));
        int at = choices.lagOf(frame, i);
        need(at != UNVOICED);
        int a = frames.diffAt(frame, at - 1);
        int b = frames.diffAt(frame, at);
        int c = frames.diffAt(frame, at + 1);
        int below = 2 * (a - 2 * b + c);
        if (below == 0) {
            return down ? 1 : at;
        }
        int above = at * below + a - c;
        return below < 0 ? lowest(-above, -below, down) : lowest(above, below, down);
    }

    // ---- paths

    public int cost(int what) throws NoSuchElementException {
        need(what >= 0 && what <= 4);
        findPath();
        return paths.priceOf(what);
    }

    public int path(int frame) throws NoSuchElementException {
        need(frames.has(frame));
        findPath();
        return paths.chosenIn(frame);
    }

    public int lag(int frame) throws NoSuchElementException {
        need(frames.has(frame));
        findPath();
        return paths.lagIn(frame);
    }

    public int through(int frame, int i) throws NoSuchElementException {
        findPath();
        need(choices.has(frame, i));
        return paths.leastThrough(frame, i);
    }

    public int both(int frame, int i, int later, int k) throws NoSuchElementException, IllegalArgumentException {
        findPath();
        need(choices.has(frame, i));
        need(choices.has(later, k));
        allow(later > frame);
        return paths.leastThroughTwo(frame, i, later, k);
    }

    public int single() {
        findPath();
        return paths.leastWithoutDoubles();
    }

    public int live(int frame, int d) throws NoSuchElementException, IllegalArgumentException {
        need(frames.has(frame));
        findPath();
        allow(d >= 0 && d <= MOST_DELAY);
        return paths.chosenLive(frame, d);
    }

    public int settles(int frame) throws NoSuchElementException {
        need(frames.has(frame));
        findPath();
        int last = paths.chosenLive(frame, MOST_DELAY);
        int d = MOST_DELAY;
        while (d > 0 && paths.chosenLive(frame, d - 1) == last) {
            d--;
        }
        return d;
    }

    public int best(int k) throws IllegalArgumentException {
        allow(k >= 0 && k < MOST_RANKS);
        findRanking();
        return ranking.priceOf(k);
    }

    public int bestAt(int k, int frame) throws IllegalArgumentException, NoSuchElementException {
        allow(k >= 0 && k < MOST_RANKS);
        need(frames.has(frame));
        findRanking();
        return ranking.chosenIn(k, frame);
    }

    public int would(int octave, int voice) throws IllegalArgumentException {
        allow(octave >= 0 && octave <= MOST_PRICE && voice >= 0 && voice <= MOST_PRICE);
        findPath();
        return paths.leastWith(octave, voice);
    }

    public int doubled() {
        findPath();
        return paths.doublesChosen();
    }

    // ---- spans, notes, lags

    public int spans() {
        findPath();
        return parts.size();
    }

    public int span(int i, int what) throws NoSuchElementException {
        findPath();
        need(parts.has(i) && what >= 0 && what <= 6);
        switch (what) {
            case 0:
                return parts.firstFrame(i);
            case 1:
                return parts.length(i);
            case 2:
                return parts.isVoiced(i) ? 1 : 0;
            case 3:
                return parts.from(i);
            case 4:
                return parts.to(i);
            case 5:
                findMarks();
                return beats.sizeIn(i);
            default:
                findMarks();
                return beats.worthIn(i);
        }
    }

    public int notes() {
        findPath();
        return melody.size();
    }

    public int note(int i, int what) throws NoSuchElementException {
        findPath();
        need(melody.has(i) && what >= 0 && what <= 2);
        switch (what) {
            case 0:
                return melody.firstFrame(i);
            case 1:
                return melody.length(i);
            default:
                return melody.lagOf(i);
        }
    }

    public int steady(int what) throws NoSuchElementException {
        need(what >= 0 && what <= 2);
        findPath();
        switch (what) {
            case 0:
                return melody.steadyFirst();
            case 1:
                return melody.steadyLength();
            default:
                return melody.steadyLag();
        }
    }

    public int lags() {
        findPath();
        return melody.unlikeLags();
    }

    public int lagAt(int i, int what) throws NoSuchElementException {
        findPath();
        need(i >= 0 && i < melody.unlikeLags() && what >= 0 && what <= 1);
        int at = melody.unlikeLag(i);
        return what == 0 ? at : melody.framesWith(at);
    }

    public int common(int what) throws NoSuchElementException {
        need(what >= 0 && what <= 1);
        findPath();
        return what == 0 ? melody.commonest() : melody.middleOfAll();
    }

    public int tune(int lag) {
        if (lag < 1 || lag > 48 || !score.hasRoom()) {
            return NOT;
        }
        score.add(lag);
        return score.size();
    }

    public int hush() {
        int old = score.size();
        score.clear();
        return old;
    }

    public int match(int what) throws NoSuchElementException {
        need(what >= 0 && what <= 1);
        findPath();
        score.findPairs();
        return what == 0 ? score.price() : score.pairs();
    }

    public int matched(int i) throws NoSuchElementException {
        need(i >= 0 && i < score.size());
        findPath();
        score.findPairs();
        return score.pairOf(i);
    }

    // ---- marks

    public int marks() {
        findMarks();
        return beats.size();
    }

    public int mark(int i) throws NoSuchElementException {
        findMarks();
        need(beats.has(i));
        return beats.at(i);
    }

    public int near(int place) {
        findMarks();
        int nearest = beats.nearest(place, 0, beats.size());
        return nearest == NONE ? NONE : beats.at(nearest);
    }

    public int behind(int place) {
        findMarks();
        for (int i = 0; i < beats.size(); i++) {
            if (beats.at(i) > place) {
                return beats.at(i);
            }
        }
        return NONE;
    }

    public int gaps(int what) throws NoSuchElementException {
        need(what >= 0 && what <= 4);
        findMarks();
        switch (what) {
            case 0:
                return beats.gapCount();
            case 1:
                return beats.jitter();
            case 2:
                return beats.shimmer();
            case 3:
                return beats.longestGap();
            default:
                return beats.shortestGap();
        }
    }

    public int rough(int i) throws NoSuchElementException {
        findMarks();
        need(beats.has(i));
        return beats.roughness(i);
    }

    public int roughest() {
        findMarks();
        int found = NONE;
        int most = NONE;
        for (int i = 0; i < beats.size(); i++) {
            int now = beats.roughness(i);
            if (now > most) {
                most = now;
                found = i;
            }
        }
        return found;
    }

    public int mean(boolean down) throws NoSuchElementException {
        findMarks();
        need(beats.gapCount() > 0);
        return lowest(beats.gapSum(), beats.gapCount(), down);
    }

    public int anew(int a, int b, int i) throws NoSuchElementException, IllegalArgumentException {
        need(signal.has(i));
        allow(a >= 1 && a <= 4 && b >= 1 && b <= 4);
        findMarks();
        return beats.renewed(a, b, i);
    }

    // ---- what the calls share

    private static void need(boolean there) {
        if (!there) {
            throw new NoSuchElementException("there is none such");
        }
    }

    private static void allow(boolean asTold) {
        if (!asTold) {
            throw new IllegalArgumentException("not as told");
        }
    }

    private boolean isLag(int lag) {
        return lag >= 0 && lag <= bounds.of(Bounds.HIGH) + 1;
    }

    private static boolean isHeight(int height) {
        return height >= 0 && height <= 127;
    }

    private int changedFrom(int from, int to) {
        frames.forgetThose(from, to);
        forgetAnswers();
        return signal.size();
    }

    private void forgetAnswers() {
        pathKnown = false;
        rankingKnown = false;
        marksKnown = false;
    }

    private void findPath() {
        if (pathKnown) {
            return;
        }
        frames.find();
        choices.find();
        paths.find();
        parts.find();
        melody.find();
        pathKnown = true;
    }

    private void findRanking() {
        findPath();
        if (!rankingKnown) {
            ranking.find();
            rankingKnown = true;
        }
    }

    private void findMarks() {
        findPath();
        if (!marksKnown) {
            beats.find();
            marksKnown = true;
        }
    }

    /** Downwards; a divisor that no caller has is answered too, so that no division can throw. */
    private static int quotient(int above, int below) {
        return below <= 0 ? 0 : Math.floorDiv(above, below);
    }

    private static int lowest(int above, int below, boolean down) {
        int part = commonPart(Math.abs(above), Math.abs(below));
        return quotient(down ? below : above, part);
    }

    private static int commonPart(int one, int other) {
        int a = one;
        int b = other;
        // Euclid needs fewer than 64 rounds for any two ints
        for (int i = 0; i < 64 && b != 0; i++) {
            int rest = a % b;
            a = b;
            b = rest;
        }
        return a;
    }

    private static int cell(int frame, int i) {
        return frame * MOST_CANDIDATES + i;
    }

    /** The lag that has the middle place of n lags, of which tally holds how often each is there. */
    private static int middleLag(int[] tally, int n) {
        int ahead = 0;
        for (int lag = 0; lag < tally.length; lag++) {
            ahead += tally[lag];
            if (ahead > (n - 1) / 2) {
                return lag;
            }
        }
        return NONE;
    }

    /** THE SIGNAL, which is 0 where it has no SAMPLE; and the tape, whose bytes wait to become SAMPLES. */
    private static final class Signal {
        private final int[] x = new int[MOST_SAMPLES];
        private final int[] bytes = new int[MOST_BYTES];
        private int size;
        private int byteCount;

        int size() {
            return size;
        }

        boolean has(int i) {
            return i >= 0 && i < size;
        }

        boolean hasRoom(int more) {
            return size + more <= MOST_SAMPLES;
        }

        int at(int i) {
            return i < 0 || i >= size ? 0 : x[i];
        }

        void put(int i, int v) {
            if (has(i)) {
                x[i] = v;
            }
        }

        void append(int v) {
            if (size < MOST_SAMPLES) {
                x[size] = v;
                size++;
            }
        }

        void drop(int n) {
            size = Math.max(0, size - n);
        }

        /** How much so many SAMPLES are off those that lie a lag behind them; all of them have to be there. */
        int offItself(int from, int length, int lag) {
            if (from < 0 || lag < 0 || from + length + lag > size) {
                return 0;
            }
            int sum = 0;
            for (int i = from; i < from + length; i++) {
                int off = x[i] - x[i + lag];
                sum += off < 0 ? -off : off;
            }
            return sum;
        }

        int loudness(int from, int length) {
            int sum = 0;
            for (int i = from; i < from + length; i++) {
                sum += Math.abs(at(i));
            }
            return sum;
        }

        int tapeSize() {
            return byteCount;
        }

        void tapeNumber(int number) {
            for (int shift = 24; shift >= 0 && byteCount < MOST_BYTES; shift -= 8) {
                bytes[byteCount] = (byte) (number >> shift);
                byteCount++;
            }
        }

        void appendFromTape(int n) {
            for (int i = 0; i < n && i < byteCount; i++) {
                append(bytes[i]);
            }
            byteCount = 0;
        }
    }

    /** BOUNDS by the numbers that count() has for them. */
    private static final class Bounds {
        static final int HOP = 2;
        static final int WIDE = 3;
        static final int LOW = 4;
        static final int HIGH = 5;
        static final int DEEP = 6;
        static final int BEST = 7;
        static final int LEAN = 8;
        static final int QUIET = 9;
        static final int JUMP = 10;
        static final int OCTAVE = 11;
        static final int VOICE = 12;
        static final int STRAY = 13;
        static final int FLOOR = 14;
        static final int MISS = 15;
        private static final int ALL = 16;
        private static final int[] LEAST = {0, 0, 8, 4, 2, 3, 0, 1, 0, 0, 0, 0, 0, 0, 0, 0};
        private static final int[] MOST = {0, 0, 40, 60, 47, 48, 2000, 5, 20, 2000, 50, 2000, 2000, 20, 2000, 500};
        private static final int[] FIRST = {0, 0, 10, 20, 4, 24, 400, 3, 4, 500, 10, 150, 200, 3, 0, 60};
        private final int[] values = new int[ALL];

        Bounds() {
            for (int i = 0; i < ALL; i++) {
                values[i] = FIRST[i];
            }
        }

        int of(int what) {
            return what < HOP || what > MISS ? 0 : values[what];
        }

        boolean allows(int what, int v) {
            if (what < HOP || what > MISS || v < LEAST[what] || v > MOST[what]) {
                return false;
            }
            if (what == LOW) {
                return v < values[HIGH];
            }
            return what != HIGH || values[LOW] < v;
        }

        void put(int what, int v) {
            if (allows(what, v)) {
                values[what] = v;
            }
        }
    }

    /** FRAMES with their DIFFS; a FRAME is measured once, until a SAMPLE that it has changes. */
    private static final class Frames {
        private final Signal signal;
        private final Bounds bounds;
        private final int[] diffs = new int[MOST_FRAMES * MOST_LAGS];
        private final int[] rels = new int[MOST_FRAMES * MOST_LAGS];
        private final int[] louds = new int[MOST_FRAMES];
        private final boolean[] measured = new boolean[MOST_FRAMES];

        Frames(Signal signal, Bounds bounds) {
            this.signal = signal;
            this.bounds = bounds;
        }

        int size() {
            int room = signal.size() - reach();
            return room < 0 ? 0 : Math.min(MOST_FRAMES, quotient(room, bounds.of(Bounds.HOP)) + 1);
        }

        boolean has(int frame) {
            return frame >= 0 && frame < size();
        }

        int diffAt(int frame, int lag) {
            if (frame < 0 || frame >= MOST_FRAMES || lag < 0 || lag >= MOST_LAGS) {
                return 0;
            }
            return diffs[frame * MOST_LAGS + lag];
        }

        int relAt(int frame, int lag) {
            if (frame < 0 || frame >= MOST_FRAMES || lag < 0 || lag >= MOST_LAGS) {
                return 0;
            }
            return rels[frame * MOST_LAGS + lag];
        }

        int loudAt(int frame) {
            return frame < 0 || frame >= MOST_FRAMES ? 0 : louds[frame];
        }

        void find() {
            int all = size();
            for (int f = 0; f < all; f++) {
                measure(f);
            }
        }

        void measure(int frame) {
            if (frame < 0 || frame >= MOST_FRAMES || measured[frame]) {
                return;
            }
            int start = frame * bounds.of(Bounds.HOP);
            int wide = bounds.of(Bounds.WIDE);
            int lags = Math.min(MOST_LAGS, bounds.of(Bounds.HIGH) + 2);
            int together = 0;
            for (int lag = 0; lag < lags; lag++) {
                int off = signal.offItself(start, wide, lag);
                // nothing at lag 0, so that REL is 1000 there
                together += off;
                diffs[frame * MOST_LAGS + lag] = off;
                rels[frame * MOST_LAGS + lag] = together == 0 ? 1000 : quotient(1000 * lag * off, together);
            }
            louds[frame] = signal.loudness(start, wide);
            measured[frame] = true;
        }

        void forgetAll() {
            for (int f = 0; f < MOST_FRAMES; f++) {
                measured[f] = false;
            }
        }

        /** Forgets each FRAME that has a SAMPLE from one to just ahead of another. */
        void forgetThose(int from, int to) {
            int start = 0;
            for (int f = 0; f < MOST_FRAMES; f++) {
                if (start < to && start + reach() > from) {
                    measured[f] = false;
                }
                start += bounds.of(Bounds.HOP);
            }
        }

        private int reach() {
            return bounds.of(Bounds.WIDE) + bounds.of(Bounds.HIGH) + 1;
        }
    }

    /** CANDIDATES of all FRAMES; UNVOICED has lag 0. */
    private static final class Candidates {
        private final Frames frames;
        private final Bounds bounds;
        private final int[] lagsOf = new int[MOST_FRAMES * MOST_CANDIDATES];
        private final int[] owns = new int[MOST_FRAMES * MOST_CANDIDATES];
        private final int[] halves = new int[MOST_FRAMES * MOST_CANDIDATES];
        private final int[] sizes = new int[MOST_FRAMES];
        private int frameCount;

        Candidates(Frames frames, Bounds bounds) {
            this.frames = frames;
            this.bounds = bounds;
        }

        int frameCount() {
            return frameCount;
        }

        boolean has(int frame, int i) {
            return frame >= 0 && frame < frameCount && i >= 0 && i < sizes[frame];
        }

        int sizeOf(int frame) {
            return frame < 0 || frame >= frameCount ? 0 : sizes[frame];
        }

        int lagOf(int frame, int i) {
            return has(frame, i) ? lagsOf[cell(frame, i)] : UNVOICED;
        }

        int ownOf(int frame, int i) {
            return has(frame, i) ? owns[cell(frame, i)] : 0;
        }

        /** Of which one it is DOUBLE. */
        int halfOf(int frame, int i) {
            return has(frame, i) ? halves[cell(frame, i)] : NONE;
        }

        int cheaperThan(int frame, int i) {
            int found = 0;
            for (int k = 0; k < sizeOf(frame); k++) {
                if (ownOf(frame, k) < ownOf(frame, i)) {
                    found++;
                }
            }
            return found;
        }

        void find() {
            frameCount = frames.size();
            for (int f = 0; f < frameCount; f++) {
                int kept = frames.loudAt(f) < bounds.of(Bounds.FLOOR) ? 0 : keepDips(f);
                lagsOf[cell(f, kept)] = UNVOICED;
                sizes[f] = kept + 1;
                for (int i = 0; i <= kept; i++) {
                    owns[cell(f, i)] = ownCost(f, lagOf(f, i));
                    halves[cell(f, i)] = findHalf(f, i);
                }
            }
        }

        /** Lags rise, so a new DIP goes behind the kept ones, and numbers need no sorting. */
        private int keepDips(int frame) {
            int most = Math.min(MOST_CANDIDATES - 1, bounds.of(Bounds.BEST));
            int high = bounds.of(Bounds.HIGH);
            int kept = 0;
            for (int lag = bounds.of(Bounds.LOW); lag <= high; lag++) {
                if (isDip(frame, lag)) {
                    lagsOf[cell(frame, kept)] = lag;
                    kept++;
                    if (kept > most) {
                        dropWorst(frame, kept);
                        kept--;
                    }
                }
            }
            return kept;
        }

        private boolean isDip(int frame, int lag) {
            int here = frames.relAt(frame, lag);
            return here <= bounds.of(Bounds.DEEP) && here < frames.relAt(frame, lag - 1)
                    && here <= frames.relAt(frame, lag + 1);
        }

        private void dropWorst(int frame, int kept) {
            int worst = 0;
            for (int i = 1; i < kept; i++) {
                // of like ones the greater lag goes
                if (frames.relAt(frame, lagsOf[cell(frame, i)]) >= frames.relAt(frame, lagsOf[cell(frame, worst)])) {
                    worst = i;
                }
            }
            for (int i = worst; i + 1 < kept; i++) {
                lagsOf[cell(frame, i)] = lagsOf[cell(frame, i + 1)];
            }
        }

        private int ownCost(int frame, int lag) {
            return lag == UNVOICED ? bounds.of(Bounds.QUIET)
                    : frames.relAt(frame, lag) + bounds.of(Bounds.LEAN) * lag;
        }

        private int findHalf(int frame, int i) {
            int whole = lagOf(frame, i);
            for (int k = 0; k < sizeOf(frame); k++) {
                int half = lagOf(frame, k);
                if (k != i && half != UNVOICED && whole != UNVOICED && Math.abs(whole - 2 * half) <= 1) {
                    return k;
                }
            }
            return NONE;
        }
    }

    /** What it costs to go from a CANDIDATE to one of the next FRAME. */
    private static final class Steps {
        private int jump;
        private int octave;
        private int voice;

        void set(int newJump, int newOctave, int newVoice) {
            jump = newJump;
            octave = newOctave;
            voice = newVoice;
        }

        void setBy(Bounds bounds) {
            set(bounds.of(Bounds.JUMP), bounds.of(Bounds.OCTAVE), bounds.of(Bounds.VOICE));
        }

        int price(int lag, int next) {
            if (lag == UNVOICED || next == UNVOICED) {
                return lag == next ? 0 : voice;
            }
            int greater = lag > next ? lag : next;
            int lesser = lag > next ? next : lag;
            return jump * (greater - lesser) + (greater >= 2 * lesser - 1 ? octave : 0);
        }
    }

    /** THE PATH, and what other PATHS cost at least. */
    private static final class Paths {
        private static final int FAR = 1 << 29;
        private final Candidates choices;
        private final Bounds bounds;
        private final Steps steps = new Steps();
        private final Steps otherSteps = new Steps();
        private final int[] heads = new int[MOST_FRAMES * MOST_CANDIDATES];
        private final int[] ranks = new int[MOST_FRAMES * MOST_CANDIDATES];
        private final int[] comesFrom = new int[MOST_FRAMES * MOST_CANDIDATES];
        private final int[] tails = new int[MOST_FRAMES * MOST_CANDIDATES];
        private final int[] chosen = new int[MOST_FRAMES];
        private final int[] chosenLags = new int[MOST_FRAMES];
        private final int[] row = new int[MOST_CANDIDATES];
        private final int[] nextRow = new int[MOST_CANDIDATES];
        private int size;

        Paths(Candidates choices, Bounds bounds) {
            this.choices = choices;
            this.bounds = bounds;
        }

        void find() {
            size = choices.frameCount();
            steps.setBy(bounds);
            for (int f = 0; f < size; f++) {
                findHeads(f);
                findRanks(f);
            }
            for (int f = size - 1; f >= 0; f--) {
                findTails(f);
            }
            int i = size == 0 ? 0 : firstAtEnd(size - 1);
            for (int f = size - 1; f >= 0; f--) {
                chosen[f] = i;
                chosenLags[f] = choices.lagOf(f, i);
                i = aheadOf(f, i);
            }
        }

        int size() {
            return size;
        }

        int chosenIn(int frame) {
            return frame < 0 || frame >= size ? 0 : chosen[frame];
        }

        int lagIn(int frame) {
            return frame < 0 || frame >= size ? UNVOICED : chosenLags[frame];
        }

        /** Of what THE PATH costs, by the numbers that cost() has: all, OWN, JUMPS, OCTAVES, VOICE. */
        int priceOf(int what) {
            switch (what) {
                case 1:
                    return ownSum();
                case 2:
                    return stepSum(bounds.of(Bounds.JUMP), 0, 0);
                case 3:
                    return stepSum(0, bounds.of(Bounds.OCTAVE), 0);
                case 4:
                    return stepSum(0, 0, bounds.of(Bounds.VOICE));
                default:
                    return ownSum() + stepSum(bounds.of(Bounds.JUMP), bounds.of(Bounds.OCTAVE), bounds.of(Bounds.VOICE));
            }
        }

        int doublesChosen() {
            int found = 0;
            for (int f = 0; f < size; f++) {
                if (choices.halfOf(f, chosen[f]) != NONE) {
                    found++;
                }
            }
            return found;
        }

        int leastThrough(int frame, int i) {
            if (!choices.has(frame, i)) {
                return 0;
            }
            // both parts have its OWN cost
            return heads[cell(frame, i)] + tails[cell(frame, i)] - choices.ownOf(frame, i);
        }

        int leastThroughTwo(int frame, int i, int later, int k) {
            if (!choices.has(frame, i) || !choices.has(later, k)) {
                return 0;
            }
            for (int c = 0; c < choices.sizeOf(frame); c++) {
                row[c] = c == i ? heads[cell(frame, i)] : FAR;
            }
            for (int f = frame + 1; f <= later; f++) {
                advance(f, steps);
            }
            return row[k] + tails[cell(later, k)] - choices.ownOf(later, k);
        }

        int leastWithoutDoubles() {
            return leastOfAll(steps, false);
        }

        int leastWith(int octave, int voice) {
            otherSteps.set(bounds.of(Bounds.JUMP), octave, voice);
            return leastOfAll(otherSteps, true);
        }

        /** What a FRAME has in the first PATH that ends so many FRAMES behind it. */
        int chosenLive(int frame, int delay) {
            int end = Math.min(frame + delay, size - 1);
            if (frame < 0 || end < frame) {
                return 0;
            }
            int i = firstAtEnd(end);
            for (int f = end; f > frame; f--) {
                i = aheadOf(f, i);
            }
            return i;
        }

        private int ownSum() {
            int sum = 0;
            for (int f = 0; f < size; f++) {
                sum += choices.ownOf(f, chosen[f]);
            }
            return sum;
        }

        private int stepSum(int jump, int octave, int voice) {
            int sum = 0;
            otherSteps.set(jump, octave, voice);
            for (int f = 1; f < size; f++) {
                sum += otherSteps.price(chosenLags[f - 1], chosenLags[f]);
            }
            return sum;
        }

        private void findHeads(int f) {
            for (int i = 0; i < choices.sizeOf(f); i++) {
                int here = choices.lagOf(f, i);
                int least = 0;
                int from = 0;
                for (int k = 0; f > 0 && k < choices.sizeOf(f - 1); k++) {
                    int now = heads[cell(f - 1, k)] + steps.price(choices.lagOf(f - 1, k), here);
                    if (k == 0 || now < least || now == least && ranks[cell(f - 1, k)] < ranks[cell(f - 1, from)]) {
                        least = now;
                        from = k;
                    }
                }
                heads[cell(f, i)] = least + choices.ownOf(f, i);
                comesFrom[cell(f, i)] = from;
            }
        }

        /**
         * The first PATHS to each CANDIDATE of a FRAME, in the order of their numbers alone: PATHS that
         * cost the same are told apart by their first FRAMES, which are not seen from the last ones.
         */
        private void findRanks(int f) {
            for (int i = 0; i < choices.sizeOf(f); i++) {
                int ahead = 0;
                for (int k = 0; k < choices.sizeOf(f); k++) {
                    if (isAhead(f, k, i)) {
                        ahead++;
                    }
                }
                ranks[cell(f, i)] = ahead;
            }
        }

        private boolean isAhead(int f, int one, int other) {
            int from = comesFrom[cell(f, one)];
            int otherFrom = comesFrom[cell(f, other)];
            if (from == otherFrom || !choices.has(f - 1, from) || !choices.has(f - 1, otherFrom)) {
                return one < other;
            }
            return ranks[cell(f - 1, from)] < ranks[cell(f - 1, otherFrom)];
        }

        /** Which CANDIDATE of the FRAME ahead the first PATH to this one has; 0, if there is none. */
        private int aheadOf(int f, int i) {
            int from = choices.has(f, i) ? comesFrom[cell(f, i)] : 0;
            return choices.has(f - 1, from) ? from : 0;
        }

        private int firstAtEnd(int f) {
            int first = 0;
            for (int i = 1; i < choices.sizeOf(f); i++) {
                int off = heads[cell(f, i)] - heads[cell(f, first)];
                if (off < 0 || off == 0 && ranks[cell(f, i)] < ranks[cell(f, first)]) {
                    first = i;
                }
            }
            return first;
        }

        private void findTails(int f) {
            for (int i = 0; i < choices.sizeOf(f); i++) {
                int here = choices.lagOf(f, i);
                int least = f + 1 < size ? FAR : 0;
                for (int k = 0; f + 1 < size && k < choices.sizeOf(f + 1); k++) {
                    int now = tails[cell(f + 1, k)] + steps.price(here, choices.lagOf(f + 1, k));
                    least = Math.min(least, now);
                }
                tails[cell(f, i)] = least + choices.ownOf(f, i);
            }
        }

        private int leastOfAll(Steps prices, boolean withDoubles) {
            if (size == 0) {
                return 0;
            }
            for (int f = 0; f < size; f++) {
                if (f == 0) {
                    for (int i = 0; i < choices.sizeOf(0); i++) {
                        row[i] = choices.ownOf(0, i);
                    }
                } else {
                    advance(f, prices);
                }
                for (int i = 0; !withDoubles && i < choices.sizeOf(f); i++) {
                    row[i] = choices.halfOf(f, i) == NONE ? row[i] : FAR;
                }
            }
            int least = FAR;
            for (int i = 0; i < choices.sizeOf(size - 1); i++) {
                least = Math.min(least, row[i]);
            }
            return least;
        }

        /** The row has what PATHS cost to each CANDIDATE of the FRAME ahead; then to those of this one. */
        private void advance(int f, Steps prices) {
            for (int i = 0; i < choices.sizeOf(f); i++) {
                int here = choices.lagOf(f, i);
                int least = FAR;
                for (int k = 0; k < choices.sizeOf(f - 1); k++) {
                    least = Math.min(least, row[k] + prices.price(choices.lagOf(f - 1, k), here));
                }
                nextRow[i] = least + choices.ownOf(f, i);
            }
            for (int i = 0; i < choices.sizeOf(f); i++) {
                row[i] = nextRow[i];
            }
        }
    }

    /** The first eight PATHS, from the first eight ways on from each CANDIDATE. */
    private static final class Ranking {
        private final Candidates choices;
        private final Bounds bounds;
        private final Steps steps = new Steps();
        // row 0 is the place ahead of all FRAMES, row f + 1 is FRAME f
        private final int[] prices = new int[(MOST_FRAMES + 1) * MOST_CANDIDATES * MOST_RANKS];
        private final int[] nexts = new int[(MOST_FRAMES + 1) * MOST_CANDIDATES * MOST_RANKS];
        private final int[] found = new int[(MOST_FRAMES + 1) * MOST_CANDIDATES];
        private final int[] taken = new int[MOST_CANDIDATES];
        private final int[] stepsTo = new int[MOST_CANDIDATES];

        Ranking(Candidates choices, Bounds bounds) {
            this.choices = choices;
            this.bounds = bounds;
        }

        void find() {
            steps.setBy(bounds);
            for (int f = choices.frameCount() - 1; f >= 0; f--) {
                for (int i = 0; i < choices.sizeOf(f); i++) {
                    findWays(f, i);
                }
            }
            findWays(-1, 0);
        }

        int priceOf(int k) {
            return k < 0 || k >= found[0] || k >= MOST_RANKS ? NONE : prices[k];
        }

        int chosenIn(int k, int frame) {
            if (k < 0 || k >= found[0] || k >= MOST_RANKS || frame < 0 || frame >= choices.frameCount()) {
                return NONE;
            }
            int way = nexts[k];
            for (int f = 0; f < frame; f++) {
                if (way < 0 || !choices.has(f, way / MOST_RANKS)) {
                    return NONE;
                }
                way = nexts[place(f, way / MOST_RANKS) + way % MOST_RANKS];
            }
            return way / MOST_RANKS;
        }

        private static int place(int frame, int i) {
            return cell(frame + 1, i) * MOST_RANKS;
        }

        /** Of ways that cost the same the lesser next number is ahead; ways through it are in order already. */
        private void findWays(int f, int i) {
            int own = choices.ownOf(f, i);
            int at = place(f, i);
            if (f + 1 >= choices.frameCount()) {
                prices[at] = own;
                found[cell(f + 1, i)] = 1;
                return;
            }
            for (int k = 0; k < choices.sizeOf(f + 1); k++) {
                taken[k] = 0;
                stepsTo[k] = f < 0 ? 0 : steps.price(choices.lagOf(f, i), choices.lagOf(f + 1, k));
            }
            int ways = 0;
            int next = cheapestNext(f + 1);
            while (ways < MOST_RANKS && next != NONE) {
                prices[at + ways] = own + stepsTo[next] + prices[place(f + 1, next) + taken[next]];
                nexts[at + ways] = next * MOST_RANKS + taken[next];
                taken[next]++;
                ways++;
                next = cheapestNext(f + 1);
            }
            found[cell(f + 1, i)] = ways;
        }

        private int cheapestNext(int f) {
            int next = NONE;
            int least = 0;
            for (int k = 0; k < choices.sizeOf(f); k++) {
                if (taken[k] < found[cell(f + 1, k)] && taken[k] < MOST_RANKS) {
                    int now = stepsTo[k] + prices[place(f, k) + taken[k]];
                    if (next == NONE || now < least) {
                        next = k;
                        least = now;
                    }
                }
            }
            return next;
        }
    }

    /** SPANS of THE PATH. */
    private static final class Spans {
        private final Paths paths;
        private final Signal signal;
        private final Bounds bounds;
        private final int[] firsts = new int[MOST_FRAMES];
        private final int[] lengths = new int[MOST_FRAMES];
        private final int[] ofFrame = new int[MOST_FRAMES];
        private int size;

        Spans(Paths paths, Signal signal, Bounds bounds) {
            this.paths = paths;
            this.signal = signal;
            this.bounds = bounds;
        }

        void find() {
            size = 0;
            for (int f = 0; f < paths.size(); f++) {
                if (f == 0 || (paths.lagIn(f) == UNVOICED) != (paths.lagIn(f - 1) == UNVOICED)) {
                    firsts[size] = f;
                    lengths[size] = 0;
                    size++;
                }
                lengths[size - 1]++;
                ofFrame[f] = size - 1;
            }
        }

        int size() {
            return size;
        }

        boolean has(int i) {
            return i >= 0 && i < size;
        }

        int firstFrame(int i) {
            return has(i) ? firsts[i] : NONE;
        }

        int length(int i) {
            return has(i) ? lengths[i] : 0;
        }

        boolean isVoiced(int i) {
            return has(i) && paths.lagIn(firsts[i]) != UNVOICED;
        }

        int from(int i) {
            return has(i) ? firsts[i] * bounds.of(Bounds.HOP) : 0;
        }

        int to(int i) {
            return has(i) ? Math.min(signal.size(), (firsts[i] + lengths[i]) * bounds.of(Bounds.HOP)) : 0;
        }

        /** A SPAN goes a HOP behind its last START, so the last START up to a SAMPLE tells its FRAME. */
        int lagAtSample(int s) {
            return paths.lagIn(quotient(s, bounds.of(Bounds.HOP)));
        }

        int ofSample(int s) {
            int frame = quotient(s, bounds.of(Bounds.HOP));
            return frame < 0 || frame >= paths.size() ? NONE : ofFrame[frame];
        }
    }

    /** NOTES of THE PATH, and which lags it has. */
    private static final class Notes {
        private final Paths paths;
        private final int[] firsts = new int[MOST_FRAMES];
        private final int[] lengths = new int[MOST_FRAMES];
        private final int[] middles = new int[MOST_FRAMES];
        private final int[] tally = new int[MOST_LAGS];
        private final int[] noteTally = new int[MOST_LAGS];
        private int size;
        private int voicedFrames;
        private int steadyFirst;
        private int steadyLength;

        Notes(Paths paths) {
            this.paths = paths;
        }

        void find() {
            findNotes();
            for (int i = 0; i < size; i++) {
                tallyLags(noteTally, firsts[i], lengths[i]);
                middles[i] = middleLag(noteTally, lengths[i]);
            }
            voicedFrames = tallyLags(tally, 0, paths.size());
            findSteady();
        }

        int size() {
            return size;
        }

        boolean has(int i) {
            return i >= 0 && i < size;
        }

        int firstFrame(int i) {
            return has(i) ? firsts[i] : NONE;
        }

        int length(int i) {
            return has(i) ? lengths[i] : 0;
        }

        int lagOf(int i) {
            return has(i) ? middles[i] : 0;
        }

        int steadyFirst() {
            return steadyFirst;
        }

        int steadyLength() {
            return steadyLength;
        }

        int steadyLag() {
            return steadyLength == 0 ? 0 : paths.lagIn(steadyFirst);
        }

        int unlikeLags() {
            int found = 0;
            for (int lag = 0; lag < MOST_LAGS; lag++) {
                found += tally[lag] > 0 ? 1 : 0;
            }
            return found;
        }

        int unlikeLag(int i) {
            int ahead = 0;
            for (int lag = 0; lag < MOST_LAGS; lag++) {
                if (tally[lag] > 0) {
                    if (ahead == i) {
                        return lag;
                    }
                    ahead++;
                }
            }
            return NONE;
        }

        int framesWith(int lag) {
            return lag < 0 || lag >= MOST_LAGS ? 0 : tally[lag];
        }

        int commonest() {
            int found = NONE;
            int most = 0;
            for (int lag = 0; lag < MOST_LAGS; lag++) {
                if (tally[lag] > most) {
                    most = tally[lag];
                    found = lag;
                }
            }
            return found;
        }

        int middleOfAll() {
            return voicedFrames == 0 ? NONE : middleLag(tally, voicedFrames);
        }

        private void findNotes() {
            size = 0;
            for (int f = 0; f < paths.size(); f++) {
                int here = paths.lagIn(f);
                if (here != UNVOICED) {
                    int ahead = f == 0 ? UNVOICED : paths.lagIn(f - 1);
                    if (ahead == UNVOICED || Math.abs(here - ahead) > 1) {
                        firsts[size] = f;
                        lengths[size] = 0;
                        size++;
                    }
                    lengths[size - 1]++;
                }
            }
        }

        /** Counts the lags of so many FRAMES into a tally: how many of them are voiced. */
        private int tallyLags(int[] into, int first, int length) {
            int voiced = 0;
            for (int lag = 0; lag < MOST_LAGS; lag++) {
                into[lag] = 0;
            }
            for (int f = first; f < first + length; f++) {
                int here = paths.lagIn(f);
                if (here > UNVOICED && here < MOST_LAGS) {
                    into[here]++;
                    voiced++;
                }
            }
            return voiced;
        }

        private void findSteady() {
            steadyFirst = NONE;
            steadyLength = 0;
            int first = 0;
            for (int f = 0; f < paths.size(); f++) {
                if (paths.lagIn(f) != paths.lagIn(first)) {
                    first = f;
                }
                if (paths.lagIn(f) != UNVOICED && f - first + 1 > steadyLength) {
                    steadyFirst = first;
                    steadyLength = f - first + 1;
                }
            }
        }
    }

    /** MARKS of all SPANS, GAPS between them, and THE SIGNAL SET ANEW. */
    private static final class Marks {
        private final Spans parts;
        private final Signal signal;
        private final Bounds bounds;
        private final int[] worths = new int[MOST_SAMPLES];
        private final int[] nexts = new int[MOST_SAMPLES];
        private final int[] places = new int[MOST_SAMPLES];
        private final int[] spanOf = new int[MOST_SAMPLES];
        private final int[] firstIn = new int[MOST_FRAMES + 1];
        private final int[] spanWorths = new int[MOST_FRAMES];
        private int size;

        Marks(Spans parts, Signal signal, Bounds bounds) {
            this.parts = parts;
            this.signal = signal;
            this.bounds = bounds;
        }

        void find() {
            size = 0;
            for (int i = 0; i < parts.size(); i++) {
                firstIn[i] = size;
                spanWorths[i] = 0;
                if (parts.isVoiced(i)) {
                    findWorths(parts.from(i), parts.to(i));
                    markSpan(i, parts.from(i), parts.to(i));
                }
            }
            firstIn[parts.size()] = size;
        }

        int size() {
            return size;
        }

        boolean has(int i) {
            return i >= 0 && i < size;
        }

        int at(int i) {
            return has(i) ? places[i] : NONE;
        }

        int sizeIn(int span) {
            return parts.has(span) ? firstIn[span + 1] - firstIn[span] : 0;
        }

        int worthIn(int span) {
            return parts.has(span) ? spanWorths[span] : 0;
        }

        /** The number of the nearest MARK among those from one number to just ahead of another. */
        int nearest(int place, int from, int to) {
            int found = NONE;
            long least = 0;
            for (int i = from; i < to; i++) {
                // any number is a place, so an int can't hold every distance
                long off = Math.abs((long) at(i) - place);
                if (found == NONE || off < least) {
                    found = i;
                    least = off;
                }
            }
            return found;
        }

        /** The GAP from a MARK to the next one of its SPAN; NONE: there is no next one. */
        int gapBehind(int i) {
            return has(i) && has(i + 1) && spanOf[i] == spanOf[i + 1] ? places[i + 1] - places[i] : NONE;
        }

        int gapCount() {
            int found = 0;
            for (int i = 0; i < size; i++) {
                found += gapBehind(i) == NONE ? 0 : 1;
            }
            return found;
        }

        int gapSum() {
            int sum = 0;
            for (int i = 0; i < size; i++) {
                sum += Math.max(0, gapBehind(i));
            }
            return sum;
        }

        int longestGap() {
            int longest = NONE;
            for (int i = 0; i < size; i++) {
                longest = Math.max(longest, gapBehind(i));
            }
            return longest;
        }

        int shortestGap() {
            int shortest = NONE;
            for (int i = 0; i < size; i++) {
                int gap = gapBehind(i);
                if (gap != NONE && (shortest == NONE || gap < shortest)) {
                    shortest = gap;
                }
            }
            return shortest;
        }

        int jitter() {
            int sum = 0;
            for (int i = 0; i < size; i++) {
                if (gapBehind(i) != NONE && gapBehind(i + 1) != NONE) {
                    sum += Math.abs(gapBehind(i + 1) - gapBehind(i));
                }
            }
            return sum;
        }

        int shimmer() {
            int sum = 0;
            for (int i = 0; i < size; i++) {
                if (gapBehind(i) != NONE) {
                    sum += Math.abs(signal.at(at(i + 1)) - signal.at(at(i)));
                }
            }
            return sum;
        }

        int roughness(int i) {
            int gap = gapBehind(i);
            int sum = 0;
            for (int k = 0; k < gap; k++) {
                sum += Math.abs(signal.at(at(i) + k) - signal.at(at(i + 1) + k));
            }
            return gap == NONE ? NONE : sum;
        }

        int renewed(int a, int b, int s) {
            int span = parts.ofSample(s);
            if (!parts.isVoiced(span)) {
                return signal.at(s);
            }
            int from = firstIn[span];
            int to = firstIn[span + 1];
            int end = parts.to(span);
            int sum = 0;
            int n = at(from);
            // places rise by 1 at least, so there are no more of them than SAMPLES
            for (int i = 0; i < MOST_SAMPLES && n < end; i++) {
                int own = nearest(n, from, to);
                int grasp = grasp(own);
                int off = Math.abs(n - s);
                if (off < grasp) {
                    sum += quotient(signal.at(at(own) + s - n) * (grasp - off), grasp);
                }
                n += Math.max(1, quotient(grasp * a, b));
            }
            return sum;
        }

        private int grasp(int i) {
            if (gapBehind(i) != NONE) {
                return gapBehind(i);
            }
            return gapBehind(i - 1) != NONE ? gapBehind(i - 1) : parts.lagAtSample(at(i));
        }

        /** From the end on, so that each SAMPLE knows what the MARKS from it on are WORTH at most. */
        private void findWorths(int from, int to) {
            int stray = bounds.of(Bounds.STRAY);
            for (int m = Math.min(to, MOST_SAMPLES) - 1; m >= from; m--) {
                int due = m + parts.lagAtSample(m);
                int slack = (due - m) / 4;
                int most = 0;
                nexts[m] = NONE;
                for (int n = due - slack; n > m && n <= due + slack && n < to; n++) {
                    int now = worths[n] - stray * Math.abs(n - due);
                    if (nexts[m] == NONE || now > most) {
                        nexts[m] = n;
                        most = now;
                    }
                }
                worths[m] = most + signal.at(m);
            }
        }

        private void markSpan(int span, int from, int to) {
            int first = from;
            for (int m = from; m < to && m < from + parts.lagAtSample(from); m++) {
                if (worths[m] > worths[first]) {
                    first = m;
                }
            }
            spanWorths[span] = worths[first];
            int m = first;
            // NONE is ahead of each SPAN
            while (m >= from && m < to && size < MOST_SAMPLES) {
                places[size] = m;
                spanOf[size] = span;
                size++;
                m = nexts[m];
            }
        }
    }

    /** THE TUNE, and its first MATCH with NOTES. */
    private static final class Tune {
        private static final int WIDTH = MOST_FRAMES + 1;
        private final Notes melody;
        private final Bounds bounds;
        private final int[] told = new int[MOST_TUNE];
        private final int[] pairOf = new int[MOST_TUNE];
        private final int[] least = new int[(MOST_TUNE + 1) * WIDTH];
        private int size;

        Tune(Notes melody, Bounds bounds) {
            this.melody = melody;
            this.bounds = bounds;
        }

        int size() {
            return size;
        }

        boolean hasRoom() {
            return size < MOST_TUNE;
        }

        void add(int lag) {
            if (hasRoom()) {
                told[size] = lag;
                size++;
            }
        }

        void clear() {
            size = 0;
        }

        int price() {
            return least[0];
        }

        int pairs() {
            int found = 0;
            for (int i = 0; i < size; i++) {
                found += pairOf[i] == NONE ? 0 : 1;
            }
            return found;
        }

        int pairOf(int i) {
            return i < 0 || i >= size ? NONE : pairOf[i];
        }

        void findPairs() {
            findLeast();
            int from = 0;
            for (int i = 0; i < size; i++) {
                pairOf[i] = firstPair(i, from);
                from = pairOf[i] == NONE ? from : pairOf[i] + 1;
            }
        }

        /** At [i, j]: what it costs at least to match THE TUNE from i on with NOTES from j on. */
        private void findLeast() {
            int miss = bounds.of(Bounds.MISS);
            int notes = Math.min(MOST_FRAMES, melody.size());
            for (int i = size; i >= 0; i--) {
                for (int j = notes; j >= 0; j--) {
                    int now = miss * (size - i + notes - j);
                    if (i < size) {
                        now = Math.min(now, miss + least[(i + 1) * WIDTH + j]);
                    }
                    if (j < notes) {
                        now = Math.min(now, miss + least[i * WIDTH + j + 1]);
                    }
                    if (i < size && j < notes) {
                        now = Math.min(now, pairPrice(i, j) + least[(i + 1) * WIDTH + j + 1]);
                    }
                    least[i * WIDTH + j] = now;
                }
            }
        }

        private int firstPair(int i, int from) {
            int miss = bounds.of(Bounds.MISS);
            int notes = Math.min(MOST_FRAMES, melody.size());
            for (int j = from; j < notes; j++) {
                int now = miss * (j - from) + pairPrice(i, j) + least[(i + 1) * WIDTH + j + 1];
                if (now == least[i * WIDTH + from]) {
                    return j;
                }
            }
            return NONE;
        }

        private int pairPrice(int i, int j) {
            return 10 * Math.abs(told[i] - melody.lagOf(j));
        }
    }
}
