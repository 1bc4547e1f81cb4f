/** Promises 8 to 14, 26 and 27: days as they were done, kinds, images to go on from. */
public final class DaysTest {
    public static void main(String[] args) {
        doing();
        doingRefused();
        ill();
        days();
        restInPlaceOfWork();
        breaches();
        blame();
        blameOfWhatWasTold();
        bread();
        breadOfChildren();
        kinds();
        images();
        imagesRefused();
        Due.end("DaysTest");
    }

    private static void doing() {
        EvenDays x = Due.told("work 1 1 2 3 0;work 2 2 - 3 0;meant 0 0 0 0 1");
        Due.is("meant", x.person(0, 0, 10), 1);
        Due.is("done", x.done(0, 0, 0, 3), 1);
        Due.is("done otherwise", x.person(0, 0, 10), 3);
        Due.is("done again", x.done(0, 0, 0, 5), 1);
        Due.is("the last told", x.person(0, 0, 10), 5);
        Due.is("another hour", x.person(0, 0, 11), 5);
        Due.is("what is meant is as it was", x.meant(0, 0, 0, 0), 1);
        Due.is("cannot be done there", x.done(0, 1, 1, 2), Due.NOT);
        Due.is("can in the other valley", x.done(1, 1, 1, 2), 1);
        Due.is("rest can be done", x.done(0, 1, 1, 5), 1);
        EvenDays great = Due.told("treaty 6 4");
        Due.is("the last of all", great.done(1, 5, 3, 4), 1);
        Due.is("the last of all", great.person(1, 5, 13), 4);
        Due.is("its breach", great.breaches(5), 8);
        great.days(1);
        Due.is("its fault", great.person(1, 5, 0), 1);
        Due.is("not its double's", great.person(0, 5, 0), 0);
        x.days(2);
        Due.is("it was of one day", x.person(0, 0, 10), 1);
        Due.is("and so was this", x.person(1, 1, 11), 5);
    }

    private static void doingRefused() {
        EvenDays x = Due.told("work 1 1 - - 0");
        Due.is("valley", x.done(2, 0, 0, 0), Due.UNKNOWN);
        Due.is("valley", x.done(-1, 0, 0, 0), Due.UNKNOWN);
        Due.is("pair", x.done(0, 2, 0, 0), Due.UNKNOWN);
        Due.is("hour", x.done(0, 0, 2, 1), Due.UNKNOWN);
        Due.is("hour", x.done(0, 0, -1, 0), Due.UNKNOWN);
        Due.is("work", x.done(0, 0, 0, 6), Due.UNKNOWN);
        Due.is("work", x.done(0, 0, 0, -1), Due.UNKNOWN);
        Due.is("not", x.done(0, 0, 0, 1), Due.NOT);
        Due.is("person", x.person(0, 2, 0), Due.UNKNOWN);
        Due.is("person", x.person(2, 0, 99), Due.UNKNOWN);
        for (int what : new int[] {-1, 2, 9, 12, 13, Integer.MAX_VALUE, Integer.MIN_VALUE}) {
            Due.is("person " + what, x.person(0, 0, what), Due.OUTSIDE);
        }
        Due.is("bread", x.bread(-1), Due.UNKNOWN);
        Due.is("bread", x.bread(2), Due.UNKNOWN);
        Due.is("breaches", x.breaches(-1), Due.UNKNOWN);
        Due.is("breaches", x.breaches(2), Due.UNKNOWN);
    }

    private static void ill() {
        EvenDays x = Due.told("work 0 0 5 5 0;meant 0 0 0 0 0;meant 1 0 0 0 0");
        Due.is("was well", x.ill(0, 0, true), 0);
        Due.is("was ill", x.ill(0, 0, true), 1);
        Due.is("rests", x.person(0, 0, 10), 5);
        Due.is("the double is well", x.ill(1, 0, false), 0);
        Due.is("no breach", x.breaches(0), 0);
        x.days(4);
        Due.is("no bread", x.bread(0), 100000);
        Due.is("no faults", x.person(0, 0, 0) + x.person(1, 0, 0), 0);
        Due.is("still ill", x.ill(0, 0, false), 1);
        Due.is("well", x.ill(0, 0, false), 0);
        Due.is("works", x.person(0, 0, 10), 0);
        Due.is("breach", x.breaches(0), 1);
        Due.is("ill valley", x.ill(2, 0, true), Due.UNKNOWN);
        Due.is("ill pair", x.ill(0, 2, true), Due.UNKNOWN);
        Due.is("ill pair", x.ill(0, -1, true), Due.UNKNOWN);
        // told otherwise, but ill: rest
        x.done(1, 1, 0, 0);
        x.ill(1, 1, true);
        Due.is("ill and told", x.person(1, 1, 10), 5);
        x.ill(1, 1, false);
        Due.is("well and told", x.person(1, 1, 10), 0);
    }

    private static void days() {
        EvenDays x = new EvenDays();
        Due.is("0 days", x.days(0), Due.OUTSIDE);
        Due.is("100 days", x.days(100), Due.OUTSIDE);
        Due.is("-1 days", x.days(-1), Due.OUTSIDE);
        Due.is("99 days", x.days(99), 99);
        Due.is("1 day", x.days(1), 100);
        Due.is("count", x.count(4), 100);
        // all rest: two breaches on each of 50 odd days, by both
        Due.is("faults", x.person(0, 1, 0), 100);
        Due.is("owed", x.person(1, 1, 1), 100);
    }

    private static void restInPlaceOfWork() {
        EvenDays x = Due.told("treaty 3 2;work 0 3 4 4 0;work 1 2 4 4 0;kind 0 1;kind 1 2",
                "meant 0 0 0 0 0;meant 0 0 1 0 0;meant 0 0 2 0 0;meant 0 0 0 1 1;meant 0 0 1 1 1;meant 0 0 2 1 1");
        Due.is("lame, class 3", x.person(0, 0, 10), 5);
        Due.is("lame, class 2", x.person(0, 0, 11), 1);
        Due.is("child, class 3", x.person(0, 1, 10), 0);
        Due.is("child, last hour", x.person(0, 1, 11), 5);
        Due.is("plain", x.person(0, 2, 10), 0);
        Due.is("plain, last hour", x.person(0, 2, 11), 1);
        Due.is("lame told class 3", x.done(0, 0, 1, 0), 1);
        Due.is("it rests", x.person(0, 0, 11), 5);
        Due.is("child told in the last hour", x.done(1, 1, 1, 1), 1);
        Due.is("it rests", x.person(1, 1, 11), 5);
        EvenDays one = Due.told("treaty 1 1;kind 0 2;meant 0 0 0 0 0");
        Due.is("a child in the one hour", one.person(0, 0, 10), 0);
    }

    private static void breaches() {
        EvenDays x = Due.told("treaty 3 3;work 0 1 0 0 0;work 1 1 0 0 0;work 2 2 0 0 0;kind 2 3",
                "meant 0 0 0 0 0;meant 0 1 0 0 1;meant 0 0 0 1 0;meant 0 1 0 1 2;meant 0 0 0 2 0",
                "meant 1 0 0 0 0;meant 1 1 0 0 1;meant 1 0 0 1 0;meant 1 1 0 1 2;meant 1 0 0 2 0",
                "meant 0 0 2 0 0;meant 1 0 2 0 0");
        Due.is("even: unlike classes", x.breaches(0), 6);
        Due.is("even: both rest", x.breaches(1), 0);
        Due.is("even: released", x.breaches(2), 0);
        x.days(1);
        Due.is("odd: like classes", x.breaches(0), 1);
        Due.is("odd: both rest", x.breaches(1), 7);
        Due.is("odd: released", x.breaches(2), 0);
        x.ill(1, 1, true);
        Due.is("odd: ill", x.breaches(1), 0);
        Due.is("refused", x.breaches(3), Due.UNKNOWN);
    }

    private static void blame() {
        EvenDays x = Due.told("treaty 3 1;work 0 0 0 0 0;work 1 0 0 0 0;work 2 2 0 0 0;fine 7");
        x.done(0, 0, 0, 2);
        x.done(0, 1, 0, 2);
        x.done(1, 1, 0, 1);
        x.done(0, 2, 0, 5);
        x.days(1);
        Due.is("by the one told", x.person(0, 0, 0), 1);
        Due.is("not by the other", x.person(1, 0, 0), 0);
        Due.is("by both told", x.person(0, 1, 0), 1);
        Due.is("by both told", x.person(1, 1, 0), 1);
        Due.is("no breach", x.person(0, 2, 0), 0);
        x.done(1, 0, 0, 5);
        x.days(1);
        // odd: all rest; told what is meant is not told otherwise, so it is by both
        Due.is("by both", x.person(0, 0, 0), 2);
        Due.is("by both", x.person(1, 0, 0), 1);
        Due.is("owes", x.person(0, 0, 1), 14);
        Due.is("owes", x.person(1, 0, 1), 7);
    }

    private static void blameOfWhatWasTold() {
        // what was told is unlike what is meant, though rest is done for either
        EvenDays x = Due.told("treaty 2 2;work 0 3 0 0 0;work 1 1 0 0 0;work 2 1 0 0 0;kind 0 1;kind 1 2;fine 3");
        x.days(1);
        x.done(0, 0, 0, 0);
        x.done(1, 1, 1, 1);
        x.days(1);
        Due.is("lame, told class 3", x.person(0, 0, 0), 2);
        Due.is("its double", x.person(1, 0, 0), 1);
        Due.is("child, told in the last hour", x.person(1, 1, 0), 2);
        Due.is("its double", x.person(0, 1, 0), 1);
        // another work of the same class is told otherwise too
        Due.tell(x, "treaty 1 1;meant 1 0 0 0 1;meant 1 1 0 0 1");
        x.days(1);
        x.done(0, 0, 0, 2);
        x.days(1);
        Due.is("another work of the class", x.person(0, 0, 0), 1);
        Due.is("its double", x.person(1, 0, 0), 0);
        Due.is("owes", x.person(0, 0, 1), 3);
    }

    private static void bread() {
        EvenDays x = Due.told("treaty 2 2;work 0 0 5 7 0;meant 0 0 0 0 0;meant 0 1 1 1 0;meant 1 1 0 0 0;eats 3");
        x.days(1);
        Due.is("valley 0", x.bread(0), 100000 + 5 - 6);
        Due.is("valley 1", x.bread(1), 100000 + 7 - 6);
        x.days(1);
        Due.is("valley 0", x.bread(0), 100000 + 5 - 12);
        Due.is("valley 1", x.bread(1), 100000 + 14 - 12);
        x.done(0, 0, 0, 5);
        x.done(0, 0, 1, 0);
        x.done(0, 1, 1, 0);
        x.days(1);
        Due.is("done otherwise", x.bread(0), 100000 + 15 - 18);
        x.ill(1, 0, true);
        x.ill(1, 1, true);
        x.days(2);
        Due.is("the ill eat", x.bread(1), 100000 + 21 - 30);
        EvenDays poor = Due.told("treaty 6 1;eats 20");
        for (int i = 0; i < 9; i++) poor.days(99);
        Due.is("below nothing", poor.bread(0), 100000 - 120 * 891);
    }

    private static void breadOfChildren() {
        EvenDays x = Due.told("treaty 1 3;work 0 0 5 1 0;work 1 0 3 4 0;kind 0 2",
                "meant 0 0 0 0 0;meant 0 0 0 1 1;meant 0 0 0 2 0;meant 0 1 0 0 0;meant 0 1 0 1 1");
        x.days(1);
        Due.is("each half is cut", x.bread(0), 100003);
        Due.is("each half is cut", x.bread(1), 100002);
    }

    private static void kinds() {
        EvenDays x = Due.told("treaty 4 2;kind 1 1;kind 2 2;kind 3 3");
        x.days(2);
        x.done(0, 0, 0, 0);
        x.days(1);
        int[][] due = {{5, 5, -4, 5, -4, -4, -4}, {4, 4, -4, 4, 4, -4, -4}, {4, 4, -4, -4, -4, 4, -4}, {0, -4, 0, -4, -4, -4, 0}};
        for (int pair = 0; pair < 4; pair++) {
            for (int kind = 0; kind < 7; kind++) Due.is("as " + pair + " " + kind, x.as(pair, kind), due[pair][kind]);
            Due.is("kind 7", x.as(pair, 7), Due.OUTSIDE);
            Due.is("kind -1", x.as(pair, -1), Due.OUTSIDE);
        }
        Due.is("pair 4", x.as(4, 0), Due.UNKNOWN);
        Due.is("pair -1", x.as(-1, 9), Due.UNKNOWN);
    }

    private static void images() {
        EvenDays x = Due.told("treaty 2 2;work 0 0 5 7 0;meant 0 0 0 0 0;eats 1;fine 4");
        x.days(2);
        x.ill(1, 1, true);
        x.done(0, 0, 1, 0);
        Due.is("keep", x.keep(0), 2);
        x.days(3);
        x.ill(1, 1, false);
        x.harm(0, 0, 9);
        x.record(true);
        Due.is("keep", x.keep(1), 5);
        x.days(1);
        Due.is("back", x.back(0), 2);
        Due.is("days", x.count(4), 2);
        Due.is("bread", x.bread(0), 100001);
        Due.is("bread", x.bread(1), 99996);
        Due.is("faults", x.person(0, 0, 0), 3);
        Due.is("owed", x.person(0, 0, 1), 12);
        Due.is("done otherwise", x.person(0, 0, 11), 0);
        Due.is("ill", x.ill(1, 1, true), 1);
        Due.is("harm stays", x.anew(0), 1);
        Due.is("the record stays", x.count(5), 1);
        x.days(1);
        x.ill(0, 0, true);
        Due.is("back once more", x.back(0), 2);
        Due.is("still as kept", x.person(0, 0, 11), 0);
        Due.is("well", x.ill(0, 0, false), 0);
        Due.is("back to the other", x.back(1), 5);
        Due.is("well there", x.ill(1, 1, false), 0);
        Due.is("keep over it", x.keep(0), 5);
        x.days(9);
        Due.is("the newer", x.back(0), 5);
    }

    private static void imagesRefused() {
        EvenDays x = new EvenDays();
        Due.is("keep 2", x.keep(2), Due.UNKNOWN);
        Due.is("keep -1", x.keep(-1), Due.UNKNOWN);
        Due.is("back 2", x.back(2), Due.UNKNOWN);
        Due.is("back -1", x.back(Integer.MIN_VALUE), Due.UNKNOWN);
        Due.is("back 0", x.back(0), Due.NOT);
        x.keep(1);
        Due.is("back 0", x.back(0), Due.NOT);
        Due.is("back 1", x.back(1), 0);
        Due.write(x, "fine");
        Due.is("a text with a fault", x.treaty(), Due.NOT);
        Due.is("back 1 still", x.back(1), 0);
        Due.write(x, "5");
        Due.is("a text", x.treaty(), 1);
        Due.is("back 1 no more", x.back(1), Due.NOT);
    }
}
