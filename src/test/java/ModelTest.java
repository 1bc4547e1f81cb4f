/** Many runs of calls upon the class and upon the Model, which must answer alike. */
public final class ModelTest {
    private final EvenDays x = new EvenDays();
    private final Model m = new Model();
    private long seed;
    private int callsUnlooked = 0;

    private ModelTest(long seed) {
        this.seed = seed * 7919 + 12345;
    }

    public static void main(String[] args) {
        for (int run = 0; run < 1500; run++) new ModelTest(run).run();
        Due.end("ModelTest");
    }

    /** The same numbers in each run: from 0 to below the bound. */
    private int some(int bound) {
        seed = seed * 6364136223846793005L + 1442695040888963407L;
        return (int) ((seed >>> 33) % bound);
    }

    /** Each look is a call; a step takes no more than 170, so the object stays below its 512. */
    private void run() {
        int before = Due.looked();
        while (Due.looked() - before + callsUnlooked < 340) {
            switch (some(16)) {
                case 0: case 1: text(); break;
                case 2: case 3: done(); break;
                case 4: ill(); break;
                case 5: days(); break;
                case 6: case 7: persons(); break;
                case 8: keepOrBack(); break;
                case 9: plan(); break;
                case 10: greatPlan(); break;
                case 11: news(); break;
                case 12: harms(); break;
                case 13: likings(); break;
                case 14: records(); break;
                default: refusals(); break;
            }
        }
    }

    private void text() {
        StringBuilder text = new StringBuilder();
        int lines = 1 + some(6);
        for (int i = 0; i < lines; i++) {
            if (i > 0) text.append(";");
            line(text);
        }
        m.begin();
        callsUnlooked += text.length() / 8 + 2;
        Due.is("write", Due.write(x, text.toString()), text.length());
        Due.is("fault of " + text, x.fault(), Due.NONE);
        Due.is("treaty of " + text, x.treaty(), lines);
    }

    private void line(StringBuilder text) {
        int what = some(12);
        if (what == 0) {
            m.treaty(1 + some(6), 1 + some(4));
            text.append("treaty " + m.n + " " + m.h);
        } else if (what < 4) {
            int work = some(5);
            m.works[work] = new int[] {some(4), some(22) - 1, some(22) - 1, some(21)};
            int[] w = m.works[work];
            text.append("work " + work + " " + w[0] + " " + bread(w[1]) + bread(w[2]) + w[3]);
        } else if (what < 6) {
            int pair = some(m.n);
            m.kind[pair] = some(4);
            text.append("kind" + pair + " " + m.kind[pair]);
        } else if (what < 10) {
            int odd = some(2), valley = some(2), pair = some(m.n), hour = some(m.h), work = some(6);
            if (!m.possible(valley, work)) work = 5;
            m.meant[odd][valley][pair][hour] = work;
            text.append(" meant " + odd + " " + valley + " " + pair + " " + hour + " 0" + work);
        } else if (what == 10) {
            m.eats = some(21);
            text.append("eats " + m.eats + " ");
        } else {
            m.fine = some(100);
            text.append("fine " + m.fine);
        }
    }

    private static String bread(int bread) {
        return bread < 0 ? "-" : bread + " ";
    }

    private void done() {
        int valley = some(2), pair = some(m.n), hour = some(m.h), work = some(6);
        boolean possible = m.possible(valley, work);
        if (possible) m.state.told[valley][pair][hour] = work;
        Due.is("done", x.done(valley, pair, hour, work), possible ? 1 : Due.NOT);
    }

    private void ill() {
        int valley = some(2), pair = some(m.n);
        boolean is = some(2) == 0;
        Due.is("ill", x.ill(valley, pair, is), m.state.ill[valley][pair] ? 1 : 0);
        m.state.ill[valley][pair] = is;
    }

    private void days() {
        int n = 1 + some(some(4) == 0 ? 99 : 3);
        for (int i = 0; i < n; i++) m.day();
        Due.is("days", x.days(n), m.state.day);
    }

    private void persons() {
        Due.is("count", x.count(4), m.state.day);
        for (int v = 0; v < 2; v++) {
            Due.is("bread", x.bread(v), m.state.bread[v] + 100000);
            for (int p = 0; p < m.n; p++) {
                Due.is("faults", x.person(v, p, 0), m.state.faults[v][p]);
                Due.is("owes", x.person(v, p, 1), m.state.owed[v][p]);
                for (int k = 0; k < m.h; k++) {
                    Due.is("does", x.person(v, p, 10 + k), m.does(v, p, k));
                    Due.is("meant", x.meant(k & 1, v, p, k), m.meant[k & 1][v][p][k]);
                }
            }
        }
        for (int p = 0; p < m.n; p++) {
            int bits = 0;
            for (int k = 0; k < m.h; k++) if (m.breach(p, k)) bits |= 1 << k;
            Due.is("breaches", x.breaches(p), bits);
            Due.is("as a pair", x.as(p, 0), m.state.faults[0][p] + m.state.faults[1][p]);
        }
        for (int w = 0; w < 5; w++) {
            for (int i = 0; i < 4; i++) Due.is("work", x.work(w, i), m.works[w][i]);
        }
        int[] counts = {m.n, m.h, m.eats, m.fine, m.state.day, m.record.size(), 0};
        for (int i = 0; i < 7; i++) Due.is("count", x.count(i), counts[i]);
        for (int p = 0; p < 6; p++) Due.is("kind", x.count(7 + p), p < m.n ? m.kind[p] : Due.NONE);
    }

    private void keepOrBack() {
        int k = some(2);
        if (some(2) == 0) {
            m.kept[k] = m.state.copy();
            Due.is("keep", x.keep(k), m.state.day);
        } else if (m.kept[k] == null) {
            Due.is("back", x.back(k), Due.NOT);
        } else {
            m.state = m.kept[k].copy();
            Due.is("back", x.back(k), m.state.day);
        }
    }

    private void plan() {
        if (m.n * m.h > 3) return;
        int odd = some(2), bread = some(30 * m.n * m.h);
        int[] due = m.plan(odd, bread);
        Due.is("worth", x.plan(odd, bread, 0), due == null ? -1 : due[0]);
        Due.is("bread", x.plan(odd, bread, 1), due == null ? -1 : due[1]);
        for (int i = 0; i < 2 * m.n * m.h; i++) {
            int place = i / 2;
            Due.is("planned", x.planned(odd, bread, i % 2, place / m.h, place % m.h), due == null ? -1 : due[2 + i]);
        }
    }

    /** A PLAN that is too great to be tried: its WORTH, and whether it is what it says. */
    private void greatPlan() {
        int odd = some(2), bread = some(201), due = -1;
        int[] worths = m.worths(odd);
        for (int i = bread; i < worths.length; i++) due = Math.max(due, worths[i]);
        Due.is("worth", x.plan(odd, bread, 0), due);
        if (due < 0) return;
        int made = 0, worth = 0;
        callsUnlooked += m.n * m.h;
        for (int p = 0; p < m.n; p++) {
            for (int k = 0; k < m.h; k++) {
                int one = x.planned(odd, bread, 0, p, k), other = x.planned(odd, bread, 1, p, k);
                int found = 0;
                for (int[] c : m.choices(odd, p, k)) {
                    if (c[0] != one || c[1] != other) continue;
                    found++;
                    made += c[2];
                    worth += c[3];
                }
                Due.is("it may be", found, 1);
            }
        }
        Due.is("its worth", worth, due);
        Due.is("its bread", x.plan(odd, bread, 1), made);
        Due.isTrue("is enough", made >= bread);
    }

    private void news() {
        int classes = some(1 << 16), hours = 1 + some(6), late = some(5);
        if (some(3) == 0) classes &= -1 << 2 * late;
        boolean alike = some(2) == 0;
        Due.is("news", x.news(classes, hours, late, alike), m.news(classes, hours, late, alike));
    }

    private void harms() {
        for (int i = 0; i < 9; i++) {
            int one = some(m.n), other = some(m.n), v = some(some(2) == 0 ? 4 : 100);
            Due.is("harm", x.harm(one, other, v), m.harm[one][other]);
            m.harm[one][other] = v;
        }
        int[] due = m.pairing(-1, -1);
        Due.is("anew", x.anew(-1), due[0]);
        for (int i = 0; i < m.n; i++) Due.is("anew", x.anew(i), due[1 + i]);
        int one = some(m.n), other = some(m.n);
        Due.is("forced", x.forced(one, other), m.pairing(one, other)[0]);
    }

    private void likings() {
        for (int i = 0; i < 8 && m.n > 1; i++) {
            int valley = some(2), one = some(m.n), other = (one + 1 + some(m.n - 1)) % m.n, v = some(some(2) == 0 ? 3 : 100);
            Due.is("like", x.like(valley, one, other, v), m.liking[valley][one][other]);
            m.liking[valley][one][other] = v;
            m.liking[valley][other][one] = v;
        }
        int[] due = m.fours(0, 0);
        Due.is("fours", x.fours(0), due[0]);
        Due.is("fours", x.fours(1), due[1]);
    }

    private void records() {
        if (some(4) == 0) {
            Due.is("burn", x.burn(), m.record.size());
            m.record.clear();
        }
        for (int i = some(6); i > 0 && m.record.size() < 12; i--) {
            boolean alike = some(4) == 0 ? some(2) == 0 : m.record.size() % 2 == 0;
            m.record.add(alike);
            Due.is("record", x.record(alike), m.record.size());
        }
        int a = 1 + some(9), b = 1 + some(9);
        int[] due = m.slips(a, b);
        for (int what = 0; what < 3; what++) Due.is("slips", x.slips(a, b, what), due[what]);
    }

    /** A number that may be anything. */
    private int any() {
        int[] all = {0, 1, 2, 3, 5, 6, 9, 12, 13, 40, 100, 201, -1, -2, -100, Integer.MAX_VALUE, Integer.MIN_VALUE, 1 << 30, 1 << 31 - 1};
        return all[some(all.length)];
    }

    /** Wrong numbers anywhere: what is refused changes nothing, which the other calls see. */
    private void refusals() {
        int wrong = some(2) == 0 ? -1 - some(3) : some(2) == 0 ? 100 + some(100) : any() | 1 << 31;
        int p = some(m.n);
        Due.is("work", x.work(wrong, any()), Due.UNKNOWN);
        Due.is("work", x.work(some(6), wrong), Due.OUTSIDE);
        Due.is("meant", x.meant(any(), wrong, p, 0), Due.UNKNOWN);
        Due.is("meant", x.meant(any(), 0, p, wrong), Due.UNKNOWN);
        Due.is("meant", x.meant(wrong, 0, p, 0), Due.OUTSIDE);
        Due.is("done", x.done(0, wrong, 0, any()), Due.UNKNOWN);
        Due.is("done", x.done(0, p, 0, wrong), Due.UNKNOWN);
        Due.is("ill", x.ill(wrong, p, true), Due.UNKNOWN);
        Due.is("ill", x.ill(0, wrong, true), Due.UNKNOWN);
        Due.is("days", x.days(wrong), Due.OUTSIDE);
        Due.is("person", x.person(0, wrong, any()), Due.UNKNOWN);
        Due.is("person", x.person(0, p, wrong), Due.OUTSIDE);
        Due.is("bread", x.bread(wrong), Due.UNKNOWN);
        Due.is("breaches", x.breaches(wrong), Due.UNKNOWN);
        Due.is("as", x.as(wrong, any()), Due.UNKNOWN);
        Due.is("as", x.as(p, wrong), Due.OUTSIDE);
        Due.is("plan", x.plan(wrong, any(), any()), Due.OUTSIDE);
        Due.is("plan", x.plan(0, 0, wrong), Due.OUTSIDE);
        Due.is("planned", x.planned(any(), any(), wrong, p, 0), Due.UNKNOWN);
        Due.is("planned", x.planned(wrong, any(), 0, p, 0), Due.OUTSIDE);
        Due.is("news", x.news(any(), wrong, any(), true), Due.OUTSIDE);
        Due.is("news", x.news(any(), 1, wrong, false), Due.OUTSIDE);
        Due.is("harm", x.harm(wrong, p, any()), Due.UNKNOWN);
        Due.is("harm", x.harm(p, p, wrong), Due.OUTSIDE);
        if (wrong != -1) Due.is("anew", x.anew(wrong), Due.UNKNOWN);
        Due.is("forced", x.forced(p, wrong), Due.UNKNOWN);
        Due.is("like", x.like(0, wrong, wrong, any()), Due.UNKNOWN);
        Due.is("like", x.like(0, p, p, any()), Due.OUTSIDE);
        Due.is("fours", x.fours(wrong), Due.OUTSIDE);
        Due.is("slips", x.slips(wrong, any(), any()), Due.OUTSIDE);
        Due.is("slips", x.slips(1, 1, wrong), Due.OUTSIDE);
        Due.is("keep", x.keep(wrong), Due.UNKNOWN);
        Due.is("back", x.back(wrong), Due.UNKNOWN);
        Due.is("count", x.count(wrong), Due.OUTSIDE);
        Due.is("write", x.write(seed, wrong), Due.OUTSIDE);
        x.write(seed, any());
        x.fault();
        x.erase();
        callsUnlooked += 3;
    }
}
