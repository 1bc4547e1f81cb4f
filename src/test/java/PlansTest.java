/** Promises 15 to 25: plans, news, pairs anew, fours, records. */
public final class PlansTest {
    public static void main(String[] args) {
        plans();
        plansOfKinds();
        firstOfSeveral();
        plansRefused();
        plansBehindTexts();
        news();
        newsNeverAlike();
        anew();
        anewFirstOfSeveral();
        harmsRefused();
        fours();
        likingsRefused();
        records();
        slips();
        slipsRefused();
        Due.end("PlansTest");
    }

    private static void plans() {
        // 0 has much worth, 1 has much bread, 2 is of another class
        EvenDays x = Due.told("treaty 1 2;work 0 0 1 2 9;work 1 0 10 10 1;work 2 1 - 8 5;work 3 3 - - 0;work 4 3 - - 0");
        Due.is("even worth", x.plan(0, 0, 0), 36);
        Due.is("even bread", x.plan(0, 0, 1), 6);
        Due.is("even 6", x.plan(0, 6, 0), 36);
        Due.is("even 7", x.plan(0, 7, 0), 28);
        Due.is("even 7 bread", x.plan(0, 7, 1), 14);
        Due.is("even 40", x.plan(0, 40, 0), 4);
        Due.is("even 40 bread", x.plan(0, 40, 1), 40);
        Due.is("even 41", x.plan(0, 41, 0), Due.NONE);
        Due.is("even 41", x.plan(0, 41, 1), Due.NONE);
        Due.is("odd", x.plan(1, 0, 0), 28);
        Due.is("odd bread", x.plan(1, 0, 1), 18);
        Due.is("odd 0", x.planned(1, 0, 0, 0, 0), 0);
        Due.is("odd 1", x.planned(1, 0, 1, 0, 0), 2);
        Due.is("odd 19", x.plan(1, 19, 0), 20);
        // the first of those that have 19: the one with work 0 in the first hour
        Due.is("odd 19 first", x.planned(1, 19, 0, 0, 0), 0);
        Due.is("odd 19 then", x.planned(1, 19, 0, 0, 1), 1);
        Due.is("odd 37", x.planned(1, 37, 0, 0, 1), Due.NONE);
        Due.is("nobody is ill in a plan", x.ill(0, 0, true), 0);
        Due.is("even worth", x.plan(0, 0, 0), 36);
        x.done(0, 0, 0, 5);
        Due.is("nothing is done otherwise in a plan", x.plan(0, 0, 0), 36);
    }

    private static void plansOfKinds() {
        String works = "work 0 3 7 7 9;work 1 0 5 3 2;work 2 1 - - 9;work 3 1 - - 9;work 4 1 - - 9";
        EvenDays plain = Due.told("treaty 1 2", works), lame = Due.told("treaty 1 2;kind 0 1", works);
        EvenDays child = Due.told("treaty 1 2;kind 0 2", works), free = Due.told("treaty 1 2;kind 0 3", works);
        Due.is("plain even", plain.plan(0, 0, 0), 36);
        Due.is("plain odd", plain.plan(1, 0, 0), 22);
        Due.is("lame even", lame.plan(0, 0, 0), 8);
        Due.is("lame odd", lame.plan(1, 0, 0), 4);
        Due.is("lame odd does 1", lame.planned(1, 0, 0, 0, 0), 1);
        Due.is("lame odd rests", lame.planned(1, 0, 1, 0, 0), 5);
        Due.is("child even", child.plan(0, 0, 0), 18);
        Due.is("child even, half cut each", child.plan(0, 0, 1), 6);
        Due.is("child even rests", child.planned(0, 0, 1, 0, 1), 5);
        Due.is("child even 6", child.plan(0, 6, 0), 18);
        Due.is("child even 7", child.plan(0, 7, 0), Due.NONE);
        Due.is("child odd", child.plan(1, 0, 0), Due.NONE);
        Due.is("released even", free.plan(0, 0, 0), 36);
        Due.is("released odd", free.plan(1, 0, 0), 36);
        EvenDays oneHour = Due.told("treaty 1 1;kind 0 2", works);
        Due.is("a child in the one hour", oneHour.plan(0, 0, 0), 18);
        Due.is("a child in the one hour", oneHour.plan(1, 0, 0), 11);
    }

    private static void firstOfSeveral() {
        EvenDays x = Due.told("treaty 2 2;work 1 1 9 9 0;work 2 2 9 9 0;work 3 3 9 9 0;work 4 3 9 9 0");
        for (int i = 0; i < 8; i++) {
            Due.is("all alike", x.planned(0, 0, i & 1, i >> 1 & 1, i >> 2), 0);
            Due.is("0 then 1", x.planned(1, 0, i & 1, i >> 1 & 1, i >> 2), i & 1);
        }
        // 18 of bread: the last pair's last hour makes it
        Due.is("as late", x.planned(0, 18, 0, 0, 0), 0);
        Due.is("as late", x.planned(0, 18, 0, 1, 0), 0);
        Due.is("as late", x.planned(0, 18, 0, 1, 1), 1);
        Due.is("as late", x.planned(0, 19, 0, 1, 0), 1);
        Due.is("its bread", x.plan(0, 19, 1), 36);
    }

    private static void plansRefused() {
        EvenDays x = new EvenDays();
        Due.is("even", x.plan(2, 0, 0), Due.OUTSIDE);
        Due.is("even", x.plan(-1, 0, 0), Due.OUTSIDE);
        Due.is("bread", x.plan(0, -1, 0), Due.OUTSIDE);
        Due.is("bread", x.plan(0, 201, 0), Due.OUTSIDE);
        Due.is("bread 200", x.plan(0, 200, 0), Due.NONE);
        Due.is("what", x.plan(0, 0, 2), Due.OUTSIDE);
        Due.is("what", x.plan(0, 200, -1), Due.OUTSIDE);
        Due.is("valley", x.planned(2, 0, 2, 0, 0), Due.UNKNOWN);
        Due.is("pair", x.planned(0, 0, 0, 2, 0), Due.UNKNOWN);
        Due.is("hour", x.planned(0, 0, 0, 0, 2), Due.UNKNOWN);
        Due.is("hour", x.planned(0, 201, 0, 0, -1), Due.UNKNOWN);
        Due.is("even", x.planned(2, 0, 0, 0, 0), Due.OUTSIDE);
        Due.is("bread", x.planned(0, 201, 0, 0, 0), Due.OUTSIDE);
        Due.is("bread", x.planned(0, -1, 0, 0, 0), Due.OUTSIDE);
        Due.is("none", x.planned(0, 200, 0, 0, 0), Due.NONE);
    }

    private static void plansBehindTexts() {
        EvenDays x = Due.told("treaty 6 4;work 0 0 20 20 20");
        Due.is("most worth", x.plan(0, 200, 0), 960);
        Due.is("most bread", x.plan(0, 200, 1), 960);
        Due.is("odd", x.plan(1, 0, 0), 480);
        Due.tell(x, "work 0 0 1 1 1");
        Due.is("behind a text", x.plan(0, 0, 0), 48);
        Due.is("behind a text", x.plan(1, 0, 0), 24);
        Due.tell(x, "kind 0 3");
        Due.is("behind a kind", x.plan(1, 0, 0), 28);
        Due.tell(x, "treaty 1 1");
        Due.is("behind a treaty", x.plan(0, 0, 0), 2);
    }

    private static void news() {
        EvenDays x = new EvenDays();
        Due.is("all 0", x.news(0, 12, 9, true), 0);
        Due.is("at once", x.news(1, 1, 0, true), 1);
        Due.is("late", x.news(1, 1, 1, true), Due.NONE);
        Due.is("in time", x.news(1 << 2, 2, 1, true), 1);
        Due.is("there and back", x.news(1 << 2, 3, 1, true), 2);
        Due.is("3 0 3", x.news(3 | 3 << 4, 3, 0, true), 3);
        Due.is("beyond m is nothing", x.news(-1 << 4, 2, 0, true), 0);
        Due.is("l beyond m", x.news(0, 1, 9, true), 0);
        Due.is("12 hours", x.news(0x999999, 12, 0, true), 12);
        Due.is("m 0", x.news(0, 0, 0, true), Due.OUTSIDE);
        Due.is("m 13", x.news(0, 13, 0, false), Due.OUTSIDE);
        Due.is("l -1", x.news(0, 1, -1, true), Due.OUTSIDE);
        Due.is("l 10", x.news(0, 12, 10, true), Due.OUTSIDE);
    }

    private static void newsNeverAlike() {
        EvenDays x = new EvenDays();
        Due.is("0 at once", x.news(0, 1, 0, false), 1);
        Due.is("0 late", x.news(0, 1, 1, false), Due.NONE);
        Due.is("1", x.news(1, 1, 9, false), 0);
        Due.is("1 0 in time", x.news(1, 2, 1, false), 1);
        Due.is("1 0 late", x.news(1, 2, 2, false), Due.NONE);
        // 0 1 2 3: one that does 3 till hour 2 has to change again
        Due.is("0 1 2 3", x.news(228, 4, 0, false), 2);
        // 1 0 1 2 3 0: 0, then 3 (or 2), then a third
        Due.is("1 0 1 2 3 0", x.news(1 | 1 << 4 | 2 << 6 | 3 << 8, 6, 1, false), 2);
        Due.is("all 3", x.news(-1, 12, 9, false), 0);
    }

    private static void anew() {
        EvenDays x = Due.told("treaty 3 1");
        int[][] harm = {{4, 1, 3}, {2, 0, 5}, {3, 2, 2}};
        for (int i = 0; i < 3; i++) {
            for (int j = 0; j < 3; j++) Due.is("was 0", x.harm(i, j, harm[i][j]), 0);
        }
        Due.is("least", x.anew(-1), 5);
        int[] due = {1, 0, 2};
        for (int i = 0; i < 3; i++) Due.is("with whom", x.anew(i), due[i]);
        int[][] forced = {{6, 5, 7}, {5, 6, 9}, {7, 9, 5}};
        forced[0][2] = 3 + Math.min(2 + 2, 0 + 3);
        forced[1][2] = 5 + Math.min(4 + 2, 1 + 3);
        forced[2][0] = 3 + Math.min(1 + 5, 3 + 0);
        forced[2][1] = 2 + Math.min(4 + 5, 3 + 2);
        for (int i = 0; i < 3; i++) {
            for (int j = 0; j < 3; j++) Due.is("forced " + i + " " + j, x.forced(i, j), forced[i][j]);
        }
        Due.is("what it was", x.harm(0, 0, 99), 4);
        Due.is("what it was", x.harm(0, 0, 0), 99);
        Due.is("least then", x.anew(-1), 2);
        EvenDays one = Due.told("treaty 1 1");
        one.harm(0, 0, 99);
        Due.is("one pair", one.anew(-1), 99);
        Due.is("one pair", one.forced(0, 0), 99);
    }

    private static void anewFirstOfSeveral() {
        EvenDays x = Due.told("treaty 6 1");
        for (int i = 0; i < 6; i++) Due.is("all 0: itself", x.anew(i), i);
        x.harm(0, 0, 1);
        int[] due = {1, 0, 2, 3, 4, 5};
        for (int i = 0; i < 6; i++) Due.is("first by these", x.anew(i), due[i]);
        for (int j = 0; j < 6; j++) x.harm(5, j, 99);
        x.forced(0, 5);
        Due.is("whatever was forced ahead", x.anew(0), 1);
        x.harm(1, 0, 50);
        Due.is("whatever it was ahead", x.anew(0), 1);
        Due.is("whatever it was ahead", x.anew(1), 2);
        x.harm(1, 0, 0);
        Due.is("all alike bad", x.anew(-1), 99);
        for (int i = 0; i < 6; i++) Due.is("first by these", x.anew(i), due[i]);
        Due.is("forced", x.forced(0, 0), 100);
    }

    private static void harmsRefused() {
        EvenDays x = new EvenDays();
        Due.is("one", x.harm(2, 0, 1), Due.UNKNOWN);
        Due.is("one", x.harm(-1, 0, 1), Due.UNKNOWN);
        Due.is("other", x.harm(0, 2, 100), Due.UNKNOWN);
        Due.is("v", x.harm(0, 1, 100), Due.OUTSIDE);
        Due.is("v", x.harm(0, 1, -1), Due.OUTSIDE);
        Due.is("nothing came of it", x.harm(0, 1, 99), 0);
        Due.is("anew", x.anew(2), Due.UNKNOWN);
        Due.is("anew", x.anew(-2), Due.UNKNOWN);
        Due.is("forced", x.forced(2, 0), Due.UNKNOWN);
        Due.is("forced", x.forced(0, -1), Due.UNKNOWN);
    }

    private static void fours() {
        EvenDays x = Due.told("treaty 4 1");
        Due.is("all 0", x.fours(0), 0);
        Due.is("two marry even so", x.fours(1), 2);
        like(x, 0, 1, 10, 9);
        like(x, 2, 3, 1, 50);
        like(x, 0, 2, 8, 99);
        like(x, 1, 3, 3, 3);
        Due.is("9 + 1 or 8 + 3", x.fours(0), 11);
        Due.is("two", x.fours(1), 2);
        like(x, 0, 1, 30, 40);
        Due.is("30 + 1", x.fours(0), 31);
        like(x, 2, 3, 0, 99);
        Due.is("30", x.fours(0), 30);
        Due.is("one more with nothing", x.fours(1), 2);
        EvenDays three = Due.told("treaty 3 1");
        Due.is("three pairs", three.fours(1), 1);
        like(three, 0, 2, 5, 6);
        Due.is("the first alone or not", three.fours(0), 5);
        like(three, 1, 2, 7, 8);
        Due.is("the first is left", three.fours(0), 7);
        Due.is("one", three.fours(1), 1);
        EvenDays one = Due.told("treaty 1 1");
        Due.is("one pair", one.fours(0), 0);
        Due.is("one pair", one.fours(1), 0);
        Due.is("what", one.fours(2), Due.OUTSIDE);
        Due.is("what", one.fours(-1), Due.OUTSIDE);
        EvenDays six = Due.told("treaty 6 1");
        for (int i = 0; i < 6; i += 2) like(six, i, i + 1, 99, 99);
        Due.is("six", six.fours(0), 297);
        Due.is("six", six.fours(1), 3);
        Due.tell(six, "treaty 3 1");
        Due.is("fewer pairs", six.fours(0), 99);
        Due.is("fewer pairs", six.fours(1), 1);
    }

    private static void like(EvenDays x, int one, int other, int in0, int in1) {
        x.like(0, one, other, in0);
        x.like(1, other, one, in1);
    }

    private static void likingsRefused() {
        EvenDays x = new EvenDays();
        Due.is("valley", x.like(2, 0, 1, 1), Due.UNKNOWN);
        Due.is("valley", x.like(-1, 0, 0, 1), Due.UNKNOWN);
        Due.is("one", x.like(0, 2, 1, 1), Due.UNKNOWN);
        Due.is("other", x.like(0, 1, 2, 100), Due.UNKNOWN);
        Due.is("itself, unknown", x.like(0, 2, 2, 1), Due.UNKNOWN);
        Due.is("itself", x.like(0, 1, 1, 1), Due.OUTSIDE);
        Due.is("v", x.like(0, 0, 1, 100), Due.OUTSIDE);
        Due.is("v", x.like(0, 0, 1, -1), Due.OUTSIDE);
        Due.is("was", x.like(0, 0, 1, 99), 0);
        Due.is("of both alike", x.like(0, 1, 0, 5), 99);
        Due.is("of the other valley", x.like(1, 1, 0, 5), 0);
    }

    private static void records() {
        EvenDays x = new EvenDays();
        Due.is("burn nothing", x.burn(), 0);
        for (int i = 1; i <= 40; i++) Due.is("row " + i, x.record(i % 2 == 1), i);
        Due.is("full", x.record(true), Due.FULL);
        Due.is("rows", x.count(5), 40);
        Due.is("as it should be", x.slips(9, 9, 0), 0);
        Due.is("burn", x.burn(), 40);
        Due.is("again from the first", x.record(false), 1);
        Due.is("the row is the new one", x.slips(1, 9, 0), 9);
        Due.is("burn", x.burn(), 1);
    }

    private static void record(EvenDays x, String rows) {
        x.burn();
        for (int i = 0; i < rows.length(); i++) x.record(rows.charAt(i) == '1');
    }

    private static void slipsAre(EvenDays x, int a, int b, int cost, int slips, int first) {
        Due.is("cost", x.slips(a, b, 0), cost);
        Due.is("slips", x.slips(a, b, 1), slips);
        Due.is("first", x.slips(a, b, 2), first);
    }

    private static void slips() {
        EvenDays x = new EvenDays();
        slipsAre(x, 1, 1, 0, 0, -1);
        record(x, "0");
        slipsAre(x, 1, 9, 9, 0, -1);
        record(x, "10010101");
        slipsAre(x, 3, 1, 3, 1, 2);
        slipsAre(x, 9, 1, 6, 0, -1);
        // as dear with a slip as without: fewer
        slipsAre(x, 6, 1, 6, 0, -1);
        slipsAre(x, 5, 1, 5, 1, 2);
        // day 3 is told wrongly: two slips at 3 and 4, or one row at b
        record(x, "10111010");
        slipsAre(x, 1, 3, 2, 2, 3);
        slipsAre(x, 1, 1, 1, 0, -1);
        slipsAre(x, 1, 2, 2, 0, -1);
        record(x, "110101");
        slipsAre(x, 2, 9, 2, 1, 1);
        record(x, "00101010");
        slipsAre(x, 9, 1, 1, 0, -1);
        record(x, "0101");
        slipsAre(x, 1, 1, 2, 1, 1);
        // a slip on day 2 leaves row 3 untold, one on day 4 row 2: the latest
        record(x, "100001010");
        slipsAre(x, 3, 3, 6, 1, 4);
        slipsAre(x, 1, 3, 3, 3, 2);
        // as dear with two slips as with none
        record(x, "100110101");
        slipsAre(x, 3, 3, 6, 0, -1);
    }

    private static void slipsRefused() {
        EvenDays x = new EvenDays();
        Due.is("a", x.slips(0, 1, 0), Due.OUTSIDE);
        Due.is("a", x.slips(10, 1, 0), Due.OUTSIDE);
        Due.is("b", x.slips(1, 0, 0), Due.OUTSIDE);
        Due.is("b", x.slips(1, 10, 0), Due.OUTSIDE);
        Due.is("what", x.slips(1, 1, 3), Due.OUTSIDE);
        Due.is("what", x.slips(1, 1, -1), Due.OUTSIDE);
        Due.is("fits", x.slips(9, 9, 2), Due.NONE);
    }
}
