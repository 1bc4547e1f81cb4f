import java.util.ArrayList;
import java.util.List;

/**
 * The document once more, as slowly and plainly as can be: everything is tried. It is told
 * texts as rows of numbers that were read elsewhere, so it says nothing of FAULTS of texts.
 */
final class Model {
    int n = 2, h = 2, eats = 0, fine = 1;
    int[] kind = new int[6];
    int[][] works = {{0, 0, 0, 0}, {0, 0, 0, 0}, {0, 0, 0, 0}, {0, 0, 0, 0}, {0, 0, 0, 0}, {4, 0, 0, 0}};
    int[][][][] meant = new int[2][2][6][4];
    int[][] harm = new int[6][6];
    int[][][] liking = new int[2][6][6];
    List<Boolean> record = new ArrayList<>();
    State state = new State();
    State[] kept = new State[2];

    static final class State implements Cloneable {
        int day = 0;
        int[] bread = new int[2];
        int[][] faults = new int[2][6], owed = new int[2][6];
        boolean[][] ill = new boolean[2][6];
        Integer[][][] told = new Integer[2][6][4];

        State copy() {
            State s = new State();
            s.day = day;
            s.bread = bread.clone();
            for (int v = 0; v < 2; v++) {
                s.faults[v] = faults[v].clone();
                s.owed[v] = owed[v].clone();
                s.ill[v] = ill[v].clone();
                for (int p = 0; p < 6; p++) s.told[v][p] = told[v][p].clone();
            }
            return s;
        }
    }

    Model() {
        treaty(2, 2);
    }

    void treaty(int pairs, int hours) {
        n = pairs;
        h = hours;
        kind = new int[6];
        for (int i = 0; i < 96; i++) meant[i & 1][i >> 1 & 1][(i >> 2) % 6][(i >> 2) / 6] = 5;
    }

    void begin() {
        state = new State();
        kept = new State[2];
    }

    boolean possible(int valley, int work) {
        return works[work][1 + valley] >= 0;
    }

    boolean allowed(int valley, int p, int hour, int work) {
        if (work == 5) return true;
        if (!possible(valley, work)) return false;
        if (kind[p] == 1 && works[work][0] == 3) return false;
        return !(kind[p] == 2 && h > 1 && hour == h - 1);
    }

    int does(int valley, int p, int hour) {
        int work = state.told[valley][p][hour] != null ? state.told[valley][p][hour] : meant[state.day % 2][valley][p][hour];
        return state.ill[valley][p] || !allowed(valley, p, hour, work) ? 5 : work;
    }

    boolean breach(int p, int hour) {
        if (kind[p] == 3 || state.ill[0][p] || state.ill[1][p]) return false;
        boolean alike = works[does(0, p, hour)][0] == works[does(1, p, hour)][0];
        return alike != (state.day % 2 == 0);
    }

    int made(int valley, int p, int work) {
        return kind[p] == 2 ? works[work][1 + valley] / 2 : works[work][1 + valley];
    }

    void day() {
        for (int v = 0; v < 2; v++) {
            state.bread[v] -= n * eats;
            for (int p = 0; p < n; p++) {
                for (int hour = 0; hour < h; hour++) {
                    int work = does(v, p, hour);
                    if (work != 5) state.bread[v] += made(v, p, work);
                }
            }
        }
        for (int p = 0; p < n; p++) {
            for (int hour = 0; hour < h; hour++) {
                if (!breach(p, hour)) continue;
                boolean[] by = new boolean[2];
                for (int v = 0; v < 2; v++) {
                    Integer told = state.told[v][p][hour];
                    by[v] = told != null && told != meant[state.day % 2][v][p][hour];
                }
                if (!by[0] && !by[1]) by = new boolean[] {true, true};
                for (int v = 0; v < 2; v++) {
                    if (!by[v]) continue;
                    state.faults[v][p]++;
                    state.owed[v][p] += fine;
                }
            }
        }
        state.told = new Integer[2][6][4];
        state.day++;
    }

    /** All that two may do at a place, in the order of the document: work, work, bread, worth. */
    List<int[]> choices(int odd, int p, int hour) {
        List<int[]> all = new ArrayList<>();
        for (int a = 0; a < 6; a++) {
            for (int b = 0; b < 6; b++) {
                if (!allowed(0, p, hour, a) || !allowed(1, p, hour, b)) continue;
                boolean alike = works[a][0] == works[b][0];
                if (kind[p] != 3 && alike != (odd == 0)) continue;
                all.add(new int[] {a, b, made(0, p, a) + made(1, p, b), works[a][3] + works[b][3]});
            }
        }
        return all;
    }

    /** The PLAN by trying every one: its WORTH, its BREAD, then the WORKS; null if there is none. */
    int[] plan(int odd, int bread) {
        int[] best = new int[2 + 2 * n * h];
        best[0] = -1;
        tryAll(odd, bread, 0, new int[2 + 2 * n * h], best);
        return best[0] < 0 ? null : best;
    }

    private void tryAll(int odd, int bread, int place, int[] way, int[] best) {
        if (place == n * h) {
            if (way[1] >= bread && way[0] > best[0]) System.arraycopy(way, 0, best, 0, way.length);
            return;
        }
        for (int[] c : choices(odd, place / h, place % h)) {
            int[] next = way.clone();
            next[0] += c[3];
            next[1] += c[2];
            next[2 + 2 * place] = c[0];
            next[3 + 2 * place] = c[1];
            tryAll(odd, bread, place + 1, next, best);
        }
    }

    /** The greatest WORTH for each BREAD that is made just so; -1 where none is. */
    int[] worths(int odd) {
        int[] worths = new int[1001];
        java.util.Arrays.fill(worths, -1);
        worths[0] = 0;
        for (int place = 0; place < n * h; place++) {
            int[] next = new int[1001];
            java.util.Arrays.fill(next, -1);
            for (int[] c : choices(odd, place / h, place % h)) {
                for (int bread = 0; bread + c[2] < 1001; bread++) {
                    if (worths[bread] >= 0) next[bread + c[2]] = Math.max(next[bread + c[2]], worths[bread] + c[3]);
                }
            }
            worths = next;
        }
        return worths;
    }

    int news(int classes, int m, int l, boolean alike) {
        int best = -1;
        int ways = 1 << 2 * m;
        for (int way = 0; way < ways; way++) {
            int sent = 0, before = 0;
            boolean is = true;
            for (int k = 0; k < m && is; k++) {
                int c = way >> 2 * k & 3;
                if (c != before) {
                    sent++;
                    if (k < l) is = false;
                }
                if ((c == (classes >> 2 * k & 3)) != alike) is = false;
                before = c;
            }
            if (is && (best < 0 || sent < best)) best = sent;
        }
        return best;
    }

    /** All ways to pair, in their order: least HARM, then the first such; one with other, if not -1. */
    int[] pairing(int one, int other) {
        int[] best = new int[n + 1];
        best[0] = Integer.MAX_VALUE;
        pairFrom(0, new int[n + 1], one, other, best);
        return best;
    }

    private void pairFrom(int i, int[] way, int one, int other, int[] best) {
        if (i == n) {
            if (way[0] < best[0]) System.arraycopy(way, 0, best, 0, n + 1);
            return;
        }
        for (int j = 0; j < n; j++) {
            boolean free = i != one || j == other;
            for (int k = 0; k < i; k++) if (way[1 + k] == j) free = false;
            if (!free) continue;
            int[] next = way.clone();
            next[0] += harm[i][j];
            next[1 + i] = j;
            pairFrom(i + 1, next, one, other, best);
        }
    }

    /** The greatest sum and the most FOURS with it, of the PAIRS from i on that are free. */
    int[] fours(int i, int taken) {
        if (i == n) return new int[2];
        int[] best = fours(i + 1, taken);
        if ((taken >> i & 1) != 0) return best;
        for (int j = i + 1; j < n; j++) {
            if ((taken >> j & 1) != 0) continue;
            int[] rest = fours(i + 1, taken | 1 << j);
            int sum = rest[0] + Math.min(liking[0][i][j], liking[1][i][j]), many = rest[1] + 1;
            if (sum > best[0] || sum == best[0] && many > best[1]) best = new int[] {sum, many};
        }
        return best;
    }

    /** Every set of SLIPS: cost, how few, the first, if the RECORD is short. */
    int[] slips(int a, int b) {
        int rows = record.size();
        int[] best = {Integer.MAX_VALUE, 0, -1};
        for (int set = 0; set < 1 << Math.max(rows - 1, 0); set++) {
            int cost = a * Integer.bitCount(set), first = set == 0 ? -1 : Integer.numberOfTrailingZeros(set) + 1;
            for (int d = 0; d < rows; d++) {
                int counted = d + Integer.bitCount(set & (1 << d) - 1);
                if (record.get(d) != (counted % 2 == 0)) cost += b;
            }
            int[] way = {cost, Integer.bitCount(set), first};
            boolean better = cost < best[0] || cost == best[0] && (way[1] < best[1] || way[1] == best[1] && first > best[2]);
            if (better) best = way;
        }
        return best;
    }
}
