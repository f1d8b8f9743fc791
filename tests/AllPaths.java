import java.util.ArrayList;
import java.util.Comparator;
import java.util.List;

/** Every PATH of a few FRAMES, one by one, from the lags and OWN costs of their CANDIDATES. */
final class AllPaths {
    private final int[][] lags;
    private final int[][] owns;
    private final boolean[][] doubles;
    private final int jump;
    private final int octave;
    private final int voice;

    AllPaths(PitchMarks p) {
        int frames = p.count(1);
        lags = new int[frames][];
        owns = new int[frames][];
        doubles = new boolean[frames][];
        for (int f = 0; f < frames; f++) {
            int n = p.candidates(f);
            lags[f] = new int[n];
            owns[f] = new int[n];
            doubles[f] = new boolean[n];
            for (int i = 0; i < n; i++) {
                lags[f][i] = p.candidate(f, i, 0);
                owns[f][i] = p.candidate(f, i, 1);
                doubles[f][i] = p.candidate(f, i, 2) != PitchMarks.NONE;
            }
        }
        jump = p.count(10);
        octave = p.count(11);
        voice = p.count(12);
    }

    /** Those of the first so many FRAMES, in their order. */
    List<int[]> inOrder(int frames) {
        List<int[]> found = new ArrayList<>();
        found.add(new int[0]);
        for (int f = 0; f < frames; f++) {
            List<int[]> longer = new ArrayList<>();
            for (int[] path : found) {
                for (int i = 0; i < lags[f].length; i++) {
                    int[] more = java.util.Arrays.copyOf(path, f + 1);
                    more[f] = i;
                    longer.add(more);
                }
            }
            found = longer;
        }
        // they are made in the order of their numbers, which a stable sort keeps for like costs
        found.sort(Comparator.comparingInt(this::cost));
        return found;
    }

    int cost(int[] path) {
        return cost(path, octave, voice);
    }

    int cost(int[] path, int otherOctave, int otherVoice) {
        int sum = 0;
        for (int f = 0; f < path.length; f++) {
            sum += owns[f][path[f]];
            sum += f == 0 ? 0 : step(lags[f - 1][path[f - 1]], lags[f][path[f]], otherOctave, otherVoice);
        }
        return sum;
    }

    boolean hasDouble(int[] path) {
        boolean any = false;
        for (int f = 0; f < path.length; f++) {
            any |= doubles[f][path[f]];
        }
        return any;
    }

    private int step(int a, int b, int otherOctave, int otherVoice) {
        if (a == 0 && b == 0) {
            return 0;
        }
        if (a == 0 || b == 0) {
            return otherVoice;
        }
        int far = Math.max(a, b) + 1 >= 2 * Math.min(a, b) ? otherOctave : 0;
        return jump * Math.abs(a - b) + far;
    }
}
