/** Plans of many hours, long rows of news, long records: reckoned forwards, where the class goes backwards. */
public final class LengthTest {
    private static long seed = 28;

    public static void main(String[] args) {
        for (int run = 0; run < 60; run++) plans();
        for (int run = 0; run < 300; run++) records();
        for (int run = 0; run < 300; run++) news();
        Due.end("LengthTest");
    }

    private static int some(int bound) {
        seed = seed * 6364136223846793005L + 1442695040888963407L;
        return (int) ((seed >>> 33) % bound);
    }

    // ---- plans

    /** The first of the best rows of WORKS that make just so much BREAD: its WORTH, and a sign for each WORK. */
    private static final class Way {
        final int worth;
        final String works;

        Way(int worth, String works) {
            this.worth = worth;
            this.works = works;
        }

        boolean goesAheadOf(Way other) {
            if (other == null || worth != other.worth) return other == null || worth > other.worth;
            return works.compareTo(other.works) < 0;
        }
    }

    private static void plans() {
        Model m = new Model();
        StringBuilder text = new StringBuilder();
        m.treaty(2 + some(5), 1 + some(4));
        text.append("treaty ").append(m.n).append(" ").append(m.h);
        // few unlike numbers leave many plans of like worth
        int most = 1 + some(some(2) == 0 ? 3 : 20);
        for (int w = 0; w < 5; w++) {
            m.works[w] = new int[] {some(4), some(most + 2) - 1, some(most + 2) - 1, some(most + 1)};
            text.append(";work ").append(w).append(" ").append(m.works[w][0]);
            for (int v = 1; v < 3; v++) text.append(" ").append(m.works[w][v] < 0 ? "-" : "" + m.works[w][v]);
            text.append(" ").append(m.works[w][3]);
        }
        for (int i = 0; i < 3; i++) {
            int pair = some(m.n);
            m.kind[pair] = some(4);
            text.append(";kind ").append(pair).append(" ").append(m.kind[pair]);
        }
        EvenDays x = Due.told(text.toString());
        for (int odd = 0; odd < 2; odd++) {
            Way[] ways = ways(m, odd);
            for (int need : new int[] {0, some(30), some(201)}) planIs(x, m, odd, need, ways);
        }
    }

    /** For each BREAD that all make together. */
    private static Way[] ways(Model m, int odd) {
        Way[] ways = new Way[961];
        ways[0] = new Way(0, "");
        for (int place = 0; place < m.n * m.h; place++) {
            Way[] next = new Way[961];
            for (int[] c : m.choices(odd, place / m.h, place % m.h)) {
                for (int bread = c[2]; bread < 961; bread++) {
                    Way before = ways[bread - c[2]];
                    if (before == null) continue;
                    Way way = new Way(before.worth + c[3], before.works + c[0] + c[1]);
                    if (way.goesAheadOf(next[bread])) next[bread] = way;
                }
            }
            ways = next;
        }
        return ways;
    }

    private static void planIs(EvenDays x, Model m, int odd, int need, Way[] ways) {
        Way due = null;
        int made = Due.NONE;
        for (int bread = need; bread < 961; bread++) {
            if (ways[bread] == null || !ways[bread].goesAheadOf(due)) continue;
            due = ways[bread];
            made = bread;
        }
        String of = " of " + m.n + " pairs, " + m.h + " hours, bread " + need;
        Due.is("worth" + of, x.plan(odd, need, 0), due == null ? Due.NONE : due.worth);
        Due.is("bread" + of, x.plan(odd, need, 1), made);
        for (int i = 0; i < 2 * m.n * m.h; i++) {
            int place = i / 2, work = due == null ? Due.NONE : due.works.charAt(i) - '0';
            Due.is("work " + i + of, x.planned(odd, need, i % 2, place / m.h, place % m.h), work);
        }
    }

    // ---- records

    private static void records() {
        EvenDays x = new EvenDays();
        int rows = 13 + some(28), often = 2 + some(8);
        boolean[] alike = new boolean[rows];
        boolean turned = false;
        for (int d = 0; d < rows; d++) {
            if (some(often) == 0) turned = !turned;
            alike[d] = (d % 2 == 0) != turned ^ some(often) == 0;
            Due.is("row", x.record(alike[d]), d + 1);
        }
        for (int a = 1; a <= 9; a += 1 + some(3)) {
            int b = 1 + some(9);
            int[] due = slips(alike, a, b);
            for (int what = 0; what < 3; what++) {
                Due.is(rows + " rows, slips " + a + " " + b + " " + what, x.slips(a, b, what), due[what]);
            }
        }
    }

    /** Day by day, for days that count as they are and turned: cost, slips, the first. */
    private static int[] slips(boolean[] alike, int a, int b) {
        int[] asItIs = {alike[0] ? 0 : b, 0, Due.NONE}, turned = null;
        for (int d = 1; d < alike.length; d++) {
            int[] back = slipped(turned, a, d), away = slipped(asItIs, a, d);
            asItIs = better(asItIs, back).clone();
            turned = better(away, turned).clone();
            if (alike[d] == (d % 2 == 0)) turned[0] += b;
            else asItIs[0] += b;
        }
        return better(asItIs, turned);
    }

    private static int[] slipped(int[] way, int a, int day) {
        return way == null ? null : new int[] {way[0] + a, way[1] + 1, way[1] == 0 ? day : way[2]};
    }

    private static int[] better(int[] one, int[] other) {
        if (one == null || other == null) return one == null ? other : one;
        if (one[0] != other[0]) return one[0] < other[0] ? one : other;
        if (one[1] != other[1]) return one[1] < other[1] ? one : other;
        return one[2] >= other[2] ? one : other;
    }

    // ---- news

    private static void news() {
        EvenDays x = new EvenDays();
        for (int i = 0; i < 20; i++) {
            int m = 7 + some(6), l = some(10), classes = some(1 << 24);
            // many a first hour with class 0, or without, so that late news come in time
            int mask = (1 << 2 * some(10)) - 1;
            if (some(2) == 0) classes = some(2) == 0 ? classes & ~mask : classes | mask & 0x555555;
            String of = " of " + Integer.toHexString(classes) + " " + m + " " + l;
            Due.is("alike" + of, x.news(classes, m, l, true), alike(classes, m, l));
            Due.is("never alike" + of, x.news(classes, m, l, false), neverAlike(classes, m, l));
        }
    }

    private static int alike(int classes, int m, int l) {
        int sent = 0;
        for (int k = 0; k < m; k++) {
            int before = k == 0 ? 0 : classes >> 2 * k - 2 & 3;
            if (before == (classes >> 2 * k & 3)) continue;
            if (k < l) return Due.NONE;
            sent++;
        }
        return sent;
    }

    /** A change as late as can be, and then to what is not alike for the longest. */
    private static int neverAlike(int classes, int m, int l) {
        int sent = 0, till = nextOf(0, classes, 0, m);
        while (till < m) {
            if (till < l) return Due.NONE;
            int farthest = till;
            for (int c = 0; c < 4; c++) farthest = Math.max(farthest, nextOf(c, classes, till, m));
            till = farthest;
            sent++;
        }
        return sent;
    }

    private static int nextOf(int c, int classes, int from, int m) {
        int k = from;
        while (k < m && (classes >> 2 * k & 3) != c) k++;
        return k;
    }
}
