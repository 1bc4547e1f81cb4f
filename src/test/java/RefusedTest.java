import java.util.ArrayList;
import java.util.List;

/**
 * What is refused changes nothing: of two objects that were told the same, one is asked what is
 * to be refused, and then all that can be seen of both must be alike.
 */
public final class RefusedTest {
    private static final int LEAST = Integer.MIN_VALUE, MOST = Integer.MAX_VALUE;
    private static final int[] FAR = {LEAST, -100, -2, 100, 1 << 30, MOST};

    private interface Call {
        int on(EvenDays x);
    }

    private record Refusal(String name, int due, Call call) {
    }

    private static final List<Refusal> REFUSALS = new ArrayList<>();

    public static void main(String[] args) {
        textsRefused();
        daysRefused();
        plansRefused();
        pairsRefused();
        recordsRefused();
        nothingChanges();
        nothingChangesInANewObject();
        theFirstThatFits();
        readingChangesNothing();
        Doc.end("RefusedTest");
    }

    private static void refused(String name, int due, Call call) {
        REFUSALS.add(new Refusal(name, due, call));
    }

    // ---- an object of which nothing is as at first

    private static EvenDays rich() {
        EvenDays x = Due.told("treaty 3 2;work 0 0 3 4 5;work 1 1 - 2 3;work 2 3 5 - 1;kind 1 1;kind 2 2;eats 2;fine 3",
                "meant 0 0 0 0 0;meant 0 1 0 0 0;meant 1 0 0 1 2;meant 1 1 1 0 1");
        x.days(2);
        x.ill(0, 2, true);
        x.done(1, 1, 0, 0);
        x.keep(0);
        x.days(1);
        x.done(0, 0, 1, 2);
        x.done(1, 0, 1, 4);
        x.ill(1, 1, true);
        x.ill(0, 2, false);
        for (int i = 0; i < 9; i++) x.harm(i / 3, i % 3, 10 + i * i % 7);
        for (int i = 0; i < 6; i++) x.like(i & 1, (i >> 1) % 3, ((i >> 1) + 1) % 3, 20 + i);
        for (int i = 0; i < 40; i++) x.record((i % 2 == 0) == (i < 20 || i == 30));
        Due.write(x, "fine 9" + " ".repeat(185) + ";eats");
        return x;
    }

    /** What can be asked without changing anything. */
    private static List<Integer> asked(EvenDays x) {
        List<Integer> seen = new ArrayList<>();
        for (int what = 0; what < 13; what++) seen.add(x.count(what));
        for (int i = 0; i < 24; i++) seen.add(x.work(i / 4, i % 4));
        for (int valley = 0; valley < 2; valley++) {
            for (int i = 0; i < 6; i++) {
                seen.add(x.meant(0, valley, i / 2, i % 2));
                seen.add(x.meant(1, valley, i / 2, i % 2));
                seen.add(x.planned(0, 9, valley, i / 2, i % 2));
                seen.add(x.planned(1, 0, valley, i / 2, i % 2));
            }
        }
        for (int odd = 0; odd < 2; odd++) {
            for (int what = 0; what < 2; what++) seen.add(x.plan(odd, 9, what));
        }
        for (int i = -1; i < 3; i++) seen.add(x.anew(i));
        for (int i = 0; i < 9; i++) seen.add(x.forced(i / 3, i % 3));
        for (int what = 0; what < 2; what++) seen.add(x.fours(what));
        for (int what = 0; what < 3; what++) {
            seen.add(x.slips(1, 1, what));
            seen.add(x.slips(1, 9, what));
            seen.add(x.slips(9, 4, what));
        }
        seen.add(x.fault());
        seeDays(x, seen);
        return seen;
    }

    private static void seeDays(EvenDays x, List<Integer> seen) {
        seen.add(x.count(4));
        for (int valley = 0; valley < 2; valley++) {
            seen.add(x.bread(valley));
            for (int pair = 0; pair < 3; pair++) {
                for (int what : new int[] {0, 1, 10, 11}) seen.add(x.person(valley, pair, what));
            }
        }
        for (int pair = 0; pair < 3; pair++) seen.add(x.breaches(pair));
    }

    /** All there is to see: what is held behind the answers comes to light by changing it. */
    private static List<Integer> allOf(EvenDays x) {
        List<Integer> seen = asked(x);
        for (int i = 0; i < 6; i++) seen.add(x.ill(i & 1, i >> 1, false));
        for (int k = 0; k < 2; k++) {
            seen.add(x.back(k));
            seeDays(x, seen);
            for (int i = 0; i < 6; i++) seen.add(x.ill(i & 1, i >> 1, false));
        }
        for (int i = 0; i < 9; i++) seen.add(x.harm(i / 3, i % 3, 0));
        for (int i = 0; i < 6; i++) seen.add(x.like(i & 1, (i >> 1) % 3, ((i >> 1) + 1) % 3, 0));
        seen.add(x.write(' ' | '7' << 8, 2));
        seen.add(x.treaty());
        for (int what = 0; what < 13; what++) seen.add(x.count(what));
        seen.add(x.burn());
        return seen;
    }

    // ---- what is refused in it

    private static void textsRefused() {
        for (int n : new int[] {-1, 0, 9}) refused("write " + n, Due.OUTSIDE, x -> x.write(-1, n));
        for (int n : FAR) refused("write " + n, Due.OUTSIDE, x -> x.write(-1, n));
        for (int n = 5; n <= 8; n++) {
            int bytes = n;
            refused("write " + n, Due.FULL, x -> x.write(0x3031323334353637L, bytes));
        }
        refused("treaty", Due.NOT, EvenDays::treaty);
        for (int wrong : new int[] {-1, 6, MOST}) refused("work " + wrong, Due.UNKNOWN, x -> x.work(wrong, 0));
        for (int wrong : new int[] {-1, 4, LEAST}) refused("work what " + wrong, Due.OUTSIDE, x -> x.work(0, wrong));
        slots("meant", (x, valley, pair, hour) -> x.meant(0, valley, pair, hour));
        for (int wrong : new int[] {-1, 2}) refused("meant even " + wrong, Due.OUTSIDE, x -> x.meant(wrong, 0, 0, 0));
        for (int wrong : new int[] {-1, 13, LEAST, MOST}) refused("count " + wrong, Due.OUTSIDE, x -> x.count(wrong));
    }

    private interface SlotCall {
        int on(EvenDays x, int valley, int pair, int hour);
    }

    private static void slots(String name, SlotCall call) {
        persons(name, (x, valley, pair) -> call.on(x, valley, pair, 1));
        for (int wrong : new int[] {LEAST, -1, 2, MOST}) refused(name + " hour " + wrong, Due.UNKNOWN, x -> call.on(x, 1, 1, wrong));
    }

    private interface PersonCall {
        int on(EvenDays x, int valley, int pair);
    }

    private static void persons(String name, PersonCall call) {
        for (int wrong : new int[] {LEAST, -1, 2, MOST}) refused(name + " valley " + wrong, Due.UNKNOWN, x -> call.on(x, wrong, 1));
        for (int wrong : new int[] {LEAST, -1, 3, 5, 6, MOST}) refused(name + " pair " + wrong, Due.UNKNOWN, x -> call.on(x, 1, wrong));
    }

    private static void daysRefused() {
        slots("done", (x, valley, pair, hour) -> x.done(valley, pair, hour, 3));
        for (int wrong : new int[] {LEAST, -1, 6, MOST}) refused("done work " + wrong, Due.UNKNOWN, x -> x.done(0, 0, 1, wrong));
        refused("done 1 in valley 0", Due.NOT, x -> x.done(0, 0, 1, 1));
        refused("done 2 in valley 1", Due.NOT, x -> x.done(1, 0, 1, 2));
        persons("ill", (x, valley, pair) -> x.ill(valley, pair, true));
        persons("well", (x, valley, pair) -> x.ill(valley, pair, false));
        for (int wrong : new int[] {LEAST, -1, 0, 100, MOST}) refused("days " + wrong, Due.OUTSIDE, x -> x.days(wrong));
        persons("person", (x, valley, pair) -> x.person(valley, pair, 10));
        for (int wrong : new int[] {-1, 2, 9, 12}) refused("person what " + wrong, Due.OUTSIDE, x -> x.person(0, 0, wrong));
        for (int wrong : new int[] {LEAST, -1, 2, MOST}) refused("bread " + wrong, Due.UNKNOWN, x -> x.bread(wrong));
        for (int wrong : new int[] {LEAST, -1, 3, 6, MOST}) {
            refused("breaches " + wrong, Due.UNKNOWN, x -> x.breaches(wrong));
            refused("as pair " + wrong, Due.UNKNOWN, x -> x.as(wrong, 0));
        }
        for (int wrong : new int[] {LEAST, -1, 7, MOST}) refused("as kind " + wrong, Due.OUTSIDE, x -> x.as(0, wrong));
        refused("plain as lame", Due.NOT, x -> x.as(0, 4));
        refused("lame as child", Due.NOT, x -> x.as(1, 5));
        refused("child as plain", Due.NOT, x -> x.as(2, 3));
        refused("child as free", Due.NOT, x -> x.as(2, 2));
    }

    private static void plansRefused() {
        for (int wrong : new int[] {LEAST, -1, 2, MOST}) {
            refused("plan even " + wrong, Due.OUTSIDE, x -> x.plan(wrong, 0, 0));
            refused("plan what " + wrong, Due.OUTSIDE, x -> x.plan(0, 0, wrong));
            refused("planned even " + wrong, Due.OUTSIDE, x -> x.planned(wrong, 0, 0, 0, 0));
        }
        for (int wrong : new int[] {LEAST, -1, 201, MOST}) {
            refused("plan bread " + wrong, Due.OUTSIDE, x -> x.plan(1, wrong, 1));
            refused("planned bread " + wrong, Due.OUTSIDE, x -> x.planned(1, wrong, 1, 2, 1));
        }
        slots("planned", (x, valley, pair, hour) -> x.planned(0, 0, valley, pair, hour));
        for (int wrong : new int[] {LEAST, -1, 0, 13, MOST}) refused("news m " + wrong, Due.OUTSIDE, x -> x.news(-1, wrong, 0, true));
        for (int wrong : new int[] {LEAST, -1, 10, MOST}) refused("news l " + wrong, Due.OUTSIDE, x -> x.news(-1, 12, wrong, false));
    }

    private static void pairsRefused() {
        for (int wrong : new int[] {LEAST, -1, 3, 5, 6, MOST}) {
            refused("harm one " + wrong, Due.UNKNOWN, x -> x.harm(wrong, 1, 77));
            refused("harm other " + wrong, Due.UNKNOWN, x -> x.harm(1, wrong, 77));
            refused("forced one " + wrong, Due.UNKNOWN, x -> x.forced(wrong, 1));
            refused("forced other " + wrong, Due.UNKNOWN, x -> x.forced(1, wrong));
            refused("like one " + wrong, Due.UNKNOWN, x -> x.like(0, wrong, 1, 77));
            refused("like other " + wrong, Due.UNKNOWN, x -> x.like(1, 1, wrong, 77));
            if (wrong != -1) refused("anew " + wrong, Due.UNKNOWN, x -> x.anew(wrong));
        }
        for (int wrong : new int[] {LEAST, -1, 100, MOST}) {
            refused("harm v " + wrong, Due.OUTSIDE, x -> x.harm(2, 2, wrong));
            refused("like v " + wrong, Due.OUTSIDE, x -> x.like(1, 0, 2, wrong));
        }
        for (int wrong : new int[] {LEAST, -1, 2, MOST}) {
            refused("like valley " + wrong, Due.UNKNOWN, x -> x.like(wrong, 0, 1, 77));
            refused("fours " + wrong, Due.OUTSIDE, x -> x.fours(wrong));
        }
        for (int one = 0; one < 3; one++) {
            int self = one;
            refused("like itself " + one, Due.OUTSIDE, x -> x.like(0, self, self, 77));
            refused("like itself " + one, Due.OUTSIDE, x -> x.like(1, self, self, 77));
        }
    }

    private static void recordsRefused() {
        refused("record 1", Due.FULL, x -> x.record(true));
        refused("record 0", Due.FULL, x -> x.record(false));
        for (int wrong : new int[] {LEAST, -1, 0, 10, MOST}) {
            refused("slips a " + wrong, Due.OUTSIDE, x -> x.slips(wrong, 1, 0));
            refused("slips b " + wrong, Due.OUTSIDE, x -> x.slips(1, wrong, 1));
        }
        for (int wrong : new int[] {LEAST, -1, 3, MOST}) refused("slips what " + wrong, Due.OUTSIDE, x -> x.slips(1, 1, wrong));
        for (int wrong : new int[] {LEAST, -1, 2, MOST}) {
            refused("keep " + wrong, Due.UNKNOWN, x -> x.keep(wrong));
            refused("back " + wrong, Due.UNKNOWN, x -> x.back(wrong));
        }
        refused("back 1", Due.NOT, x -> x.back(1));
    }

    // ---- the tests

    private static void sameSeen(String behind, List<Integer> seen, List<Integer> due) {
        Due.is("how much is seen behind " + behind, seen.size(), due.size());
        for (int i = 0; i < due.size(); i++) Due.is("seen " + i + " behind " + behind, seen.get(i), due.get(i));
    }

    private static void nothingChanges() {
        Doc.says("Refused, and nothing changes: UNKNOWN (no such VALLEY, PAIR, HOUR, WORK), OUTSIDE (another number is not as told), NOT (not now: as told), FULL");
        List<Integer> due = allOf(rich());
        for (Refusal refusal : REFUSALS) {
            EvenDays x = rich();
            Due.is(refusal.name, refusal.call.on(x), refusal.due);
            sameSeen(refusal.name, allOf(x), due);
        }
    }

    private static void nothingChangesInANewObject() {
        Doc.says("Refused, and nothing changes: UNKNOWN (no such VALLEY, PAIR, HOUR, WORK), OUTSIDE (another number is not as told), NOT (not now: as told), FULL");
        List<Integer> due = allOf(new EvenDays());
        for (Refusal refusal : REFUSALS) {
            // what is there only where works, kinds, the text and the record were told so
            boolean isOfRich = refusal.due == Due.FULL || refusal.due == Due.NOT
                    && !refusal.name.equals("treaty") && !refusal.name.equals("back 1");
            if (isOfRich) continue;
            EvenDays x = new EvenDays();
            int answer = refusal.call.on(x);
            // with two pairs and no third some are unknown that were outside
            Due.isTrue(refusal.name + " is refused", answer == refusal.due || answer == Due.UNKNOWN);
            sameSeen(refusal.name, allOf(x), due);
        }
    }

    private static void fits(String name, EvenDays x, Call call, int due) {
        Due.is(name, call.on(x), due);
    }

    private static void theFirstThatFits() {
        Doc.says("FULL: the first of these that fits");
        EvenDays x = rich(), empty = new EvenDays();
        fits("outside, full: 9 bytes", x, y -> y.write(0, 9), Due.OUTSIDE);
        fits("outside, full: the most", x, y -> y.write(0, MOST), Due.OUTSIDE);
        fits("unknown, outside: work", x, y -> y.work(6, 4), Due.UNKNOWN);
        fits("unknown, outside: work", x, y -> y.work(-1, -1), Due.UNKNOWN);
        fits("unknown, outside: meant valley", x, y -> y.meant(2, 2, 0, 0), Due.UNKNOWN);
        fits("unknown, outside: meant pair", x, y -> y.meant(-1, 0, 3, 0), Due.UNKNOWN);
        fits("unknown, outside: meant hour", x, y -> y.meant(2, 0, 0, 2), Due.UNKNOWN);
        fits("unknown, not: done valley", x, y -> y.done(2, 0, 0, 1), Due.UNKNOWN);
        fits("unknown, not: done valley", x, y -> y.done(-1, 0, 0, 2), Due.UNKNOWN);
        fits("unknown, not: done pair", x, y -> y.done(0, 3, 0, 1), Due.UNKNOWN);
        fits("unknown, not: done hour", x, y -> y.done(0, 0, 2, 1), Due.UNKNOWN);
        fits("not: done", x, y -> y.done(0, 0, 0, 1), Due.NOT);
        fits("unknown, outside: person valley", x, y -> y.person(2, 0, 12), Due.UNKNOWN);
        fits("unknown, outside: person pair", x, y -> y.person(0, 3, -1), Due.UNKNOWN);
        fits("unknown, outside: as", x, y -> y.as(3, 7), Due.UNKNOWN);
        fits("unknown, not: as", x, y -> y.as(3, 6), Due.UNKNOWN);
        fits("outside, not: as", x, y -> y.as(2, 7), Due.OUTSIDE);
        fits("unknown, outside: planned valley, even", x, y -> y.planned(2, 0, 2, 0, 0), Due.UNKNOWN);
        fits("unknown, outside: planned pair, bread", x, y -> y.planned(0, 201, 0, 3, 0), Due.UNKNOWN);
        fits("unknown, outside: planned hour, both", x, y -> y.planned(-1, -1, 0, 0, 2), Due.UNKNOWN);
        fits("unknown, outside: harm one", x, y -> y.harm(3, 0, 100), Due.UNKNOWN);
        fits("unknown, outside: harm other", x, y -> y.harm(0, -1, -1), Due.UNKNOWN);
        fits("unknown, outside: like valley", x, y -> y.like(2, 0, 0, 5), Due.UNKNOWN);
        fits("unknown, outside: like one", x, y -> y.like(0, 3, 0, 100), Due.UNKNOWN);
        fits("unknown, outside: like itself", x, y -> y.like(0, 3, 3, 5), Due.UNKNOWN);
        fits("unknown, not: back", x, y -> y.back(2), Due.UNKNOWN);
        fits("unknown, not: back, nothing kept", empty, y -> y.back(-1), Due.UNKNOWN);
        fits("not: back, nothing kept", empty, y -> y.back(0), Due.NOT);
    }

    private static void readingChangesNothing() {
        Doc.says("Nothing is promised beyond the answers and state changes described above");
        EvenDays twice = rich(), x = rich();
        List<Integer> once = asked(twice);
        sameSeen("what was asked ahead", asked(twice), once);
        for (int pair = 0; pair < 3; pair++) {
            for (int kind = 0; kind < 7; kind++) x.as(pair, kind);
        }
        for (int i = 0; i < 6; i++) x.news(-1 << i, 12, i, i % 2 == 0);
        sameSeen("kinds and news", allOf(x), allOf(rich()));
    }
}
