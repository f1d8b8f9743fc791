import java.util.ArrayList;
import java.util.Arrays;
import java.util.HashMap;
import java.util.List;
import java.util.Map;
import java.util.NoSuchElementException;

/**
 * The document said again, slowly: PATHS, MARKS and MATCHES are held whole and compared whole, by
 * the order that the document tells. It has the calls of PitchMarks, so that both can be asked.
 */
final class Oracle {
    private static final int[] LEAST = {0, 0, 8, 4, 2, 3, 0, 1, 0, 0, 0, 0, 0, 0, 0, 0};
    private static final int[] MOST = {0, 0, 40, 60, 47, 48, 2000, 5, 20, 2000, 50, 2000, 2000, 20, 2000, 500};
    private final int[] b = {0, 0, 10, 20, 4, 24, 400, 3, 4, 500, 10, 150, 200, 3, 0, 60};
    private final List<Integer> tape = new ArrayList<>();
    private final List<Integer> x = new ArrayList<>();
    private final List<Integer> tuneLags = new ArrayList<>();
    private List<List<int[]>> cells; // of each frame: {lag, own, double of}
    private Map<String, List<Path>> kept = new HashMap<>();
    private List<Span> spanList;

    static final class Path {
        final int price;
        final int[] at;

        Path(int price, int[] at) {
            this.price = price;
            this.at = at;
        }
    }

    static final class Span {
        int first;
        int length;
        boolean voiced;
        int from;
        int to;
        int worth;
        List<Integer> marks = new ArrayList<>();
    }

    interface Allowed {
        boolean is(int frame, int i);
    }

    private void changed() {
        cells = null;
        spanList = null;
        kept.clear();
    }

    private static int floor(int a, int d) {
        return Math.floorDiv(a, d);
    }

    private static void need(boolean ok) {
        if (!ok) {
            throw new NoSuchElementException();
        }
    }

    private static void allow(boolean ok) {
        if (!ok) {
            throw new IllegalArgumentException();
        }
    }

    private int x(int i) {
        return i < 0 || i >= x.size() ? 0 : x.get(i);
    }

    // ---- the signal

    public int feed(int a, int bb, int c, int d, int e) {
        if (tape.size() > 380) {
            return -1;
        }
        for (int n : new int[] {a, bb, c, d, e}) {
            tape.add((int) (byte) (n >>> 24));
            tape.add((int) (byte) (n >>> 16));
            tape.add((int) (byte) (n >>> 8));
            tape.add((int) (byte) n);
        }
        return tape.size();
    }

    public int samples(int n) {
        if (n < 0 || n > tape.size() || x.size() + n > 800) {
            return -1000;
        }
        x.addAll(tape.subList(0, n));
        tape.clear();
        changed();
        return x.size();
    }

    public int cycles(int period, int height, int times) {
        if (period < 2 || period > 48 || height < 0 || height > 127 || times < 1 || times > 50
                || x.size() + period * times > 800) {
            return -1000;
        }
        for (int i = 0; i < period * times; i++) {
            x.add(height - floor(2 * height * (i % period), period));
        }
        changed();
        return x.size();
    }

    public int noise(int seed, int n, int height) {
        if (n < 1 || n > 400 || height < 0 || height > 127 || x.size() + n > 800) {
            return -1000;
        }
        long s = seed;
        for (int i = 0; i < n; i++) {
            s = (int) (s * 1103515245L + 12345L);
            long bits = (s & 0xffffffffL) >> 16 & 0x7fffL;
            x.add((int) (bits % (2 * height + 1)) - height);
        }
        changed();
        return x.size();
    }

    public int poke(int i, int v) {
        if (i < 0 || i >= x.size() || v < -128 || v > 127) {
            return -1000;
        }
        changed();
        return x.set(i, v);
    }

    public int cut(int n) {
        if (n < 0 || n > x.size()) {
            return -1000;
        }
        for (int i = 0; i < n; i++) {
            x.remove(x.size() - 1);
        }
        changed();
        return x.size();
    }

    public int sample(int i) {
        need(i >= 0 && i < x.size());
        return x.get(i);
    }

    // ---- bounds

    public int bound(int what, int v) {
        if (what < 2 || what > 15 || v < LEAST[what] || v > MOST[what]) {
            return -1000;
        }
        if (what == 4 && v >= b[5] || what == 5 && v <= b[4]) {
            return -1000;
        }
        int old = b[what];
        b[what] = v;
        changed();
        return old;
    }

    public int count(int what) {
        need(what >= 0 && what <= 17);
        return what == 0 ? x.size() : what == 1 ? frames() : what == 16 ? tape.size() : what == 17 ? tuneLags.size() : b[what];
    }

    private int frames() {
        int f = 0;
        while (f * b[2] + b[3] + b[5] + 1 <= x.size()) {
            f++;
        }
        return f;
    }

    private void frame(int f) {
        need(f >= 0 && f < frames());
    }

    // ---- frames

    public int diff(int f, int lag) {
        frame(f);
        need(lag >= 0 && lag <= b[5] + 1);
        int sum = 0;
        for (int i = 0; i < b[3]; i++) {
            sum += Math.abs(x.get(f * b[2] + i) - x.get(f * b[2] + i + lag));
        }
        return sum;
    }

    public int rel(int f, int lag) {
        frame(f);
        need(lag >= 0 && lag <= b[5] + 1);
        if (lag == 0) {
            return 1000;
        }
        int all = 0;
        for (int k = 1; k <= lag; k++) {
            all += diff(f, k);
        }
        return all == 0 ? 1000 : floor(1000 * lag * diff(f, lag), all);
    }

    public int loud(int f) {
        frame(f);
        int sum = 0;
        for (int i = 0; i < b[3]; i++) {
            sum += Math.abs(x.get(f * b[2] + i));
        }
        return sum;
    }

    private List<int[]> cells(int f) {
        if (cells == null) {
            cells = new ArrayList<>();
            for (int k = 0; k < frames(); k++) {
                cells.add(findCells(k));
            }
        }
        return cells.get(f);
    }

    private List<int[]> findCells(int f) {
        List<int[]> dips = new ArrayList<>();
        for (int lag = b[4]; loud(f) >= b[14] && lag <= b[5]; lag++) {
            int r = rel(f, lag);
            if (r <= b[6] && r < rel(f, lag - 1) && r <= rel(f, lag + 1)) {
                dips.add(new int[] {lag, r + b[8] * lag, -1, r});
            }
        }
        dips.sort((p, q) -> p[3] != q[3] ? p[3] - q[3] : p[0] - q[0]);
        List<int[]> all = new ArrayList<>(dips.subList(0, Math.min(b[7], dips.size())));
        all.sort((p, q) -> p[0] - q[0]);
        for (int[] p : all) {
            for (int k = all.size() - 1; k >= 0; k--) {
                int off = p[0] - 2 * all.get(k)[0];
                if (all.get(k) != p && off >= -1 && off <= 1) {
                    p[2] = k;
                }
            }
        }
        all.add(new int[] {0, b[9], -1});
        return all;
    }

    public int candidates(int f) {
        frame(f);
        return cells(f).size();
    }

    private int[] cell(int f, int i) {
        frame(f);
        need(i >= 0 && i < cells(f).size());
        return cells(f).get(i);
    }

    public int candidate(int f, int i, int what) {
        int[] c = cell(f, i);
        need(what >= 0 && what <= 3);
        if (what < 3) {
            return c[what];
        }
        int less = 0;
        for (int[] o : cells(f)) {
            less += o[1] < c[1] ? 1 : 0;
        }
        return less;
    }

    private static int gcd(int p, int q) {
        return q == 0 ? Math.abs(p) : gcd(q, p % q);
    }

    public int fine(int f, int i, boolean down) {
        int lag = cell(f, i)[0];
        need(lag > 0);
        int p = diff(f, lag - 1);
        int q = diff(f, lag);
        int r = diff(f, lag + 1);
        int below = 2 * (p - 2 * q + r);
        int above = p - r;
        if (below == 0) {
            return down ? 1 : lag;
        }
        if (below < 0) {
            below = -below;
            above = -above;
        }
        above += lag * below;
        int g = gcd(above, below);
        return down ? below / g : above / g;
    }

    // ---- paths

    private int step(int p, int q, int octave, int voice) {
        if (p == 0 && q == 0) {
            return 0;
        }
        if (p == 0 || q == 0) {
            return voice;
        }
        return b[10] * Math.abs(p - q) + (Math.max(p, q) >= 2 * Math.min(p, q) - 1 ? octave : 0);
    }

    private static int order(Path p, Path q) {
        return p.price != q.price ? Integer.compare(p.price, q.price) : Arrays.compare(p.at, q.at);
    }

    /** The first n PATHS of the FRAMES up to end, through allowed CANDIDATES alone. */
    private List<Path> top(int end, int n, int octave, int voice, Allowed ok) {
        List<Path> all = new ArrayList<>();
        if (end < 0) {
            all.add(new Path(0, new int[0]));
            return all;
        }
        for (List<Path> some : topEnds(end, n, octave, voice, ok)) {
            all.addAll(some);
        }
        all.sort(Oracle::order);
        return all.size() > n ? all.subList(0, n) : all;
    }

    private List<List<Path>> topEnds(int end, int n, int octave, int voice, Allowed ok) {
        List<List<Path>> ahead = null;
        for (int f = 0; f <= end; f++) {
            List<List<Path>> here = new ArrayList<>();
            for (int i = 0; i < cells(f).size(); i++) {
                int[] c = cells(f).get(i);
                List<Path> to = new ArrayList<>();
                if (ok.is(f, i) && f == 0) {
                    to.add(new Path(c[1], new int[] {i}));
                }
                if (ok.is(f, i) && f > 0) {
                    for (List<Path> some : ahead) {
                        for (Path p : some) {
                            int[] at = Arrays.copyOf(p.at, f + 1);
                            at[f] = i;
                            int lagAhead = cells(f - 1).get(p.at[f - 1])[0];
                            to.add(new Path(p.price + c[1] + step(lagAhead, c[0], octave, voice), at));
                        }
                    }
                }
                to.sort(Oracle::order);
                here.add(to.size() > n ? new ArrayList<>(to.subList(0, n)) : to);
            }
            ahead = here;
        }
        return ahead;
    }

    /** With so many PATHS kept that none is dropped, for few FRAMES: the order alone decides then. */
    private int width() {
        long all = 1;
        for (int f = 0; f < frames() && all < 5000; f++) {
            all *= cells(f).size();
        }
        return all < 5000 ? 5000 : 8;
    }

    private List<Path> first(int end) {
        return kept.computeIfAbsent("end " + end, k -> top(end, width(), b[11], b[12], (f, i) -> true));
    }

    private Path thePath() {
        return first(frames() - 1).get(0);
    }

    public int cost(int what) {
        need(what >= 0 && what <= 4);
        int[] sums = new int[5];
        for (int f = 0; f < frames(); f++) {
            sums[1] += cells(f).get(thePath().at[f])[1];
            if (f > 0) {
                int p = pathLag(f - 1);
                int q = pathLag(f);
                if (p > 0 && q > 0) {
                    sums[2] += b[10] * Math.abs(p - q);
                    sums[3] += step(p, q, b[11], 0) - step(p, q, 0, 0);
                }
                sums[4] += (p > 0) != (q > 0) ? b[12] : 0;
            }
        }
        sums[0] = thePath().price;
        if (sums[0] != sums[1] + sums[2] + sums[3] + sums[4]) {
            throw new IllegalStateException("the oracle is wrong");
        }
        return sums[what];
    }

    private int pathLag(int f) {
        return cells(f).get(thePath().at[f])[0];
    }

    public int path(int f) {
        frame(f);
        return thePath().at[f];
    }

    public int lag(int f) {
        frame(f);
        return pathLag(f);
    }

    public int through(int f, int i) {
        cell(f, i);
        return top(frames() - 1, 1, b[11], b[12], (g, k) -> g != f || k == i).get(0).price;
    }

    public int both(int f, int i, int later, int k) {
        cell(f, i);
        cell(later, k);
        allow(later > f);
        return top(frames() - 1, 1, b[11], b[12], (g, j) -> g == f ? j == i : g != later || j == k).get(0).price;
    }

    public int single() {
        return top(frames() - 1, 1, b[11], b[12], (g, j) -> cells(g).get(j)[2] == -1).get(0).price;
    }

    public int live(int f, int d) {
        frame(f);
        allow(d >= 0 && d <= 20);
        return first(Math.min(f + d, frames() - 1)).get(0).at[f];
    }

    public int settles(int f) {
        frame(f);
        for (int d = 0; d < 20; d++) {
            boolean same = true;
            for (int e = d; e <= 20; e++) {
                same &= live(f, e) == live(f, d);
            }
            if (same) {
                return d;
            }
        }
        return 20;
    }

    public int best(int k) {
        allow(k >= 0 && k <= 7);
        List<Path> all = first(frames() - 1);
        return k < all.size() ? all.get(k).price : -1;
    }

    public int bestAt(int k, int f) {
        allow(k >= 0 && k <= 7);
        frame(f);
        List<Path> all = first(frames() - 1);
        return k < all.size() ? all.get(k).at[f] : -1;
    }

    public int would(int octave, int voice) {
        allow(octave >= 0 && octave <= 2000 && voice >= 0 && voice <= 2000);
        return top(frames() - 1, 1, octave, voice, (g, j) -> true).get(0).price;
    }

    public int doubled() {
        int n = 0;
        for (int f = 0; f < frames(); f++) {
            n += cells(f).get(thePath().at[f])[2] != -1 ? 1 : 0;
        }
        return n;
    }

    // ---- spans, notes, lags

    private List<Span> all() {
        if (spanList != null) {
            return spanList;
        }
        spanList = new ArrayList<>();
        int f = 0;
        while (f < frames()) {
            Span s = new Span();
            s.first = f;
            s.voiced = pathLag(f) > 0;
            while (f < frames() && pathLag(f) > 0 == s.voiced) {
                f++;
            }
            s.length = f - s.first;
            s.from = s.first * b[2];
            s.to = Math.min(x.size(), (f - 1) * b[2] + b[2]);
            if (s.voiced) {
                setMarks(s);
            }
            spanList.add(s);
        }
        return spanList;
    }

    private int p(Span s, int at) {
        for (int f = s.first + s.length - 1; f > s.first; f--) {
            if (f * b[2] <= at) {
                return pathLag(f);
            }
        }
        return pathLag(s.first);
    }

    private void setMarks(Span s) {
        Map<Integer, Path> from = new HashMap<>();
        for (int m = s.to - 1; m >= s.from; m--) {
            int p = p(s, m);
            Path most = null;
            for (int n = m + p - p / 4; n <= m + p + p / 4; n++) {
                if (n < s.to) {
                    Path rest = from.get(n);
                    most = better(most, new Path(rest.price - b[13] * Math.abs(n - m - p), rest.at));
                }
            }
            int[] rest = most == null ? new int[0] : most.at;
            int[] at = new int[rest.length + 1];
            at[0] = m;
            System.arraycopy(rest, 0, at, 1, rest.length);
            from.put(m, new Path((most == null ? 0 : most.price) + x(m), at));
        }
        Path most = null;
        for (int m = s.from; m < s.to && m < s.from + p(s, s.from); m++) {
            most = better(most, from.get(m));
        }
        s.worth = most.price;
        for (int m : most.at) {
            s.marks.add(m);
        }
    }

    private static Path better(Path p, Path q) {
        if (p == null || q.price > p.price) {
            return q;
        }
        return q.price == p.price && Arrays.compare(q.at, p.at) < 0 ? q : p;
    }

    public int spans() {
        return all().size();
    }

    public int span(int i, int what) {
        need(i >= 0 && i < all().size() && what >= 0 && what <= 6);
        Span s = all().get(i);
        return new int[] {s.first, s.length, s.voiced ? 1 : 0, s.from, s.to, s.marks.size(), s.worth}[what];
    }

    private List<int[]> noteList() {
        List<int[]> found = new ArrayList<>();
        for (Span s : all()) {
            int f = s.first;
            while (s.voiced && f < s.first + s.length) {
                int end = f + 1;
                while (end < s.first + s.length && Math.abs(pathLag(end) - pathLag(end - 1)) <= 1) {
                    end++;
                }
                found.add(new int[] {f, end - f, middle(f, end)});
                f = end;
            }
        }
        return found;
    }

    private int middle(int from, int to) {
        List<Integer> some = new ArrayList<>();
        for (int f = from; f < to; f++) {
            if (pathLag(f) > 0) {
                some.add(pathLag(f));
            }
        }
        some.sort(null);
        return some.isEmpty() ? -1 : some.get((some.size() - 1) / 2);
    }

    public int notes() {
        return noteList().size();
    }

    public int note(int i, int what) {
        need(i >= 0 && i < noteList().size() && what >= 0 && what <= 2);
        return noteList().get(i)[what];
    }

    public int steady(int what) {
        need(what >= 0 && what <= 2);
        int[] found = {-1, 0, 0};
        for (int f = 0; f < frames(); f++) {
            int end = f;
            while (end < frames() && pathLag(end) == pathLag(f)) {
                end++;
            }
            if (pathLag(f) > 0 && end - f > found[1]) {
                found = new int[] {f, end - f, pathLag(f)};
            }
        }
        return found[what];
    }

    private List<int[]> lagList() {
        List<int[]> found = new ArrayList<>();
        for (int lag = 1; lag <= 48; lag++) {
            int n = 0;
            for (int f = 0; f < frames(); f++) {
                n += pathLag(f) == lag ? 1 : 0;
            }
            if (n > 0) {
                found.add(new int[] {lag, n});
            }
        }
        return found;
    }

    public int lags() {
        return lagList().size();
    }

    public int lagAt(int i, int what) {
        need(i >= 0 && i < lagList().size() && what >= 0 && what <= 1);
        return lagList().get(i)[what];
    }

    public int common(int what) {
        need(what >= 0 && what <= 1);
        if (what == 1) {
            return middle(0, frames());
        }
        int[] most = {-1, 0};
        for (int[] l : lagList()) {
            most = l[1] > most[1] ? l : most;
        }
        return most[0];
    }

    public int tune(int lag) {
        if (lag < 1 || lag > 48 || tuneLags.size() == 12) {
            return -1000;
        }
        tuneLags.add(lag);
        return tuneLags.size();
    }

    public int hush() {
        int n = tuneLags.size();
        tuneLags.clear();
        return n;
    }

    /** Of THE TUNE from i on with NOTES from j on: the price, and each one's NOTE (999: none). */
    private Path matchFrom(int i, int j, List<int[]> notes, Map<Integer, Path> known) {
        int key = i * 1000 + j;
        if (known.containsKey(key)) {
            return known.get(key);
        }
        Path least = null;
        if (i == tuneLags.size()) {
            least = new Path(b[15] * (notes.size() - j), new int[0]);
        } else {
            for (int n = j; n <= notes.size(); n++) {
                boolean none = n == notes.size();
                Path rest = matchFrom(i + 1, none ? j : n + 1, notes, known);
                int price = none ? b[15] : b[15] * (n - j) + 10 * Math.abs(tuneLags.get(i) - notes.get(n)[2]);
                int[] at = new int[rest.at.length + 1];
                at[0] = none ? 999 : n;
                System.arraycopy(rest.at, 0, at, 1, rest.at.length);
                Path now = new Path(price + rest.price, at);
                least = least == null || order(now, least) < 0 ? now : least;
            }
        }
        known.put(key, least);
        return least;
    }

    private Path firstMatch() {
        return matchFrom(0, 0, noteList(), new HashMap<>());
    }

    public int match(int what) {
        need(what >= 0 && what <= 1);
        Path m = firstMatch();
        int pairs = 0;
        for (int n : m.at) {
            pairs += n != 999 ? 1 : 0;
        }
        return what == 0 ? m.price : pairs;
    }

    public int matched(int i) {
        need(i >= 0 && i < tuneLags.size());
        int n = firstMatch().at[i];
        return n == 999 ? -1 : n;
    }

    // ---- marks

    private List<Integer> allMarks() {
        List<Integer> found = new ArrayList<>();
        for (Span s : all()) {
            found.addAll(s.marks);
        }
        return found;
    }

    public int marks() {
        return allMarks().size();
    }

    public int mark(int i) {
        need(i >= 0 && i < marks());
        return allMarks().get(i);
    }

    private static int nearest(List<Integer> marks, long place) {
        int found = -1;
        for (int m : marks) {
            if (found == -1 || Math.abs(m - place) < Math.abs(found - place)) {
                found = m;
            }
        }
        return found;
    }

    public int near(int place) {
        return nearest(allMarks(), place);
    }

    public int behind(int place) {
        for (int m : allMarks()) {
            if (m > place) {
                return m;
            }
        }
        return -1;
    }

    private List<Integer> gapList() {
        List<Integer> found = new ArrayList<>();
        for (Span s : all()) {
            for (int i = 1; i < s.marks.size(); i++) {
                found.add(s.marks.get(i) - s.marks.get(i - 1));
            }
        }
        return found;
    }

    public int gaps(int what) {
        need(what >= 0 && what <= 4);
        int jitter = 0;
        int shimmer = 0;
        for (Span s : all()) {
            List<Integer> m = s.marks;
            for (int i = 1; i < m.size(); i++) {
                shimmer += Math.abs(x(m.get(i)) - x(m.get(i - 1)));
                if (i > 1) {
                    jitter += Math.abs(m.get(i) - m.get(i - 1) - (m.get(i - 1) - m.get(i - 2)));
                }
            }
        }
        List<Integer> g = gapList();
        g.sort(null);
        int longest = g.isEmpty() ? -1 : g.get(g.size() - 1);
        int shortest = g.isEmpty() ? -1 : g.get(0);
        return new int[] {g.size(), jitter, shimmer, longest, shortest}[what];
    }

    public int rough(int i) {
        need(i >= 0 && i < marks());
        int m = allMarks().get(i);
        for (Span s : all()) {
            int k = s.marks.indexOf(m);
            if (k >= 0 && k + 1 < s.marks.size()) {
                int n = s.marks.get(k + 1);
                int sum = 0;
                for (int j = 0; j < n - m; j++) {
                    sum += Math.abs(x(m + j) - x(n + j));
                }
                return sum;
            }
        }
        return -1;
    }

    public int roughest() {
        int found = -1;
        for (int i = 0; i < marks(); i++) {
            if (rough(i) != -1 && (found == -1 || rough(i) > rough(found))) {
                found = i;
            }
        }
        return found;
    }

    public int mean(boolean down) {
        List<Integer> g = gapList();
        need(!g.isEmpty());
        int sum = 0;
        for (int n : g) {
            sum += n;
        }
        int d = gcd(sum, g.size());
        return down ? g.size() / d : sum / d;
    }

    private int grasp(Span s, int mark) {
        int k = s.marks.indexOf(mark);
        if (s.marks.size() == 1) {
            return p(s, mark);
        }
        return k + 1 < s.marks.size() ? s.marks.get(k + 1) - mark : mark - s.marks.get(k - 1);
    }

    public int anew(int a, int bb, int i) {
        need(i >= 0 && i < x.size());
        allow(a >= 1 && a <= 4 && bb >= 1 && bb <= 4);
        for (Span s : all()) {
            if (s.voiced && i >= s.from && i < s.to) {
                int sum = 0;
                int n = s.marks.get(0);
                while (n < s.to) {
                    int m = nearest(s.marks, n);
                    int g = grasp(s, m);
                    if (Math.abs(n - i) < g) {
                        sum += floor(x(m + i - n) * (g - Math.abs(n - i)), g);
                    }
                    n += Math.max(1, floor(g * a, bb));
                }
                return sum;
            }
        }
        return x(i);
    }
}
