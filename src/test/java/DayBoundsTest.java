/** Paragraph 2 and promises 8 to 14, 26 and 27, sentence by sentence: what is just inside, and just outside. */
public final class DayBoundsTest {
    private static final int LEAST = Integer.MIN_VALUE, MOST = Integer.MAX_VALUE;
    /** More than is just outside of anything, and less. */
    private static final int[] FAR = {LEAST, -100, 100, MOST};

    public static void main(String[] args) {
        evenDays();
        doneOtherwise();
        restOfTheIll();
        restWhereItCanNotBeDone();
        restOfTheLame();
        restOfChildren();
        restOfChildrenInOneHour();
        noBreachOfReleased();
        noBreachOfTheIll();
        breachOnEvenDays();
        breachOnOddDays();
        byThoseTold();
        byThoseToldWhatIsMeant();
        byThoseToldWhatCanNotBeDone();
        byBoth();
        owes();
        breadMade();
        halfCut();
        eaten();
        belowNothing();
        overThen();
        asked();
        askedFaults();
        done();
        doneNot();
        doneUnknown();
        ill();
        days();
        daysOutside();
        toldOfTheFirst();
        person();
        personOutside();
        bread();
        breachBits();
        as();
        keep();
        keptIsWhole();
        keptStays();
        backNot();
        backNotBehindATreaty();
        lastCall();
        Doc.end("DayBoundsTest");
    }

    // ---- what is done

    private static void evenDays() {
        Doc.says("A DAY t (0, 1, ..; EVEN, if t is)");
        EvenDays x = Due.told("meant 0 0 0 0 1;meant 1 0 0 0 2");
        for (int t = 0; t < 6; t++) {
            Due.is("days ahead of it", x.count(4), t);
            Due.is("day " + t, x.person(0, 0, 10), t % 2 == 0 ? 1 : 2);
            x.days(1);
        }
        x.days(98);
        Due.is("day 104", x.person(0, 0, 10), 1);
        x.days(99);
        Due.is("day 203", x.person(0, 0, 10), 2);
    }

    private static void doneOtherwise() {
        Doc.says("each person does in each HOUR what is MEANT by it, or what is told to be DONE otherwise on this DAY");
        EvenDays x = Due.told("treaty 6 4;meant 0 0 0 0 1;meant 0 1 5 3 2");
        int[][] all = {{0, 0, 0}, {1, 5, 3}, {0, 5, 3}, {1, 0, 0}, {0, 0, 3}, {1, 5, 0}};
        int[] due = {1, 2, 5, 5, 5, 5};
        for (int i = 0; i < 6; i++) Due.is("meant", x.person(all[i][0], all[i][1], 10 + all[i][2]), due[i]);
        for (int told = 0; told < 6; told++) {
            Due.is("told", x.done(all[told][0], all[told][1], all[told][2], told % 5), 1);
            due[told] = told % 5;
            for (int i = 0; i < 6; i++) Due.is("does", x.person(all[i][0], all[i][1], 10 + all[i][2]), due[i]);
        }
    }

    private static void restOfTheIll() {
        Doc.says("but REST, if it is ILL");
        EvenDays x = Due.told("treaty 2 4;meant 0 0 1 0 1;meant 0 0 1 3 2;meant 0 1 1 0 3");
        x.done(0, 1, 1, 4);
        int[] well = {1, 4, 5, 2};
        x.ill(0, 1, true);
        for (int hour = 0; hour < 4; hour++) Due.is("ill", x.person(0, 1, 10 + hour), 5);
        Due.is("its double", x.person(1, 1, 10), 3);
        x.ill(0, 1, false);
        for (int hour = 0; hour < 4; hour++) Due.is("well", x.person(0, 1, 10 + hour), well[hour]);
        x.ill(0, 1, true);
        x.days(99);
        x.days(1);
        Due.is("still ill a hundred days later", x.person(0, 1, 10), 5);
        Due.is("its double", x.person(1, 1, 10), 3);
    }

    private static void restWhereItCanNotBeDone() {
        Doc.says("if that can not be done in its VALLEY");
        EvenDays x = Due.told("meant 0 0 0 0 1;meant 0 1 0 0 1;meant 0 0 1 0 2;work 1 1 - 0 0;work 2 1 0 - 0");
        Due.is("not in valley 0", x.person(0, 0, 10), 5);
        Due.is("bread 0 can be done", x.person(1, 0, 10), 1);
        Due.is("in valley 0", x.person(0, 1, 10), 2);
    }

    private static void restOfTheLame() {
        Doc.says("if it is LAME and the CLASS is 3");
        for (int kind = 0; kind < 4; kind++) {
            for (int c = 0; c < 4; c++) {
                EvenDays x = Due.told("treaty 2 2;work 0 " + c + " 2 2 0;kind 1 " + kind + ";meant 0 1 1 0 0;meant 0 0 0 0 0");
                Due.is("kind " + kind + " class " + c, x.person(1, 1, 10), kind == 1 && c == 3 ? 5 : 0);
                x.done(0, 1, 0, 0);
                Due.is("told", x.person(0, 1, 10), kind == 1 && c == 3 ? 5 : 0);
                Due.is("the plain pair", x.person(0, 0, 10), 0);
            }
        }
    }

    private static void restOfChildren() {
        Doc.says("if it is a CHILD and the HOUR is the last one (of two or more)");
        for (int h = 2; h <= 4; h++) {
            EvenDays x = Due.told("treaty 2 " + h + ";kind 1 2");
            for (int hour = 0; hour < h; hour++) {
                x.done(0, 0, hour, 3);
                x.done(0, 1, hour, 3);
                x.done(1, 1, hour, 3);
                boolean isLast = hour == h - 1;
                Due.is("hour " + hour + " of " + h, x.person(0, 1, 10 + hour), isLast ? 5 : 3);
                Due.is("hour " + hour + " of " + h, x.person(1, 1, 10 + hour), isLast ? 5 : 3);
                Due.is("the plain pair", x.person(0, 0, 10 + hour), 3);
            }
        }
        for (int kind = 0; kind < 4; kind++) {
            EvenDays x = Due.told("treaty 1 2;kind 0 " + kind + ";meant 0 0 0 1 0");
            Due.is("the last hour of kind " + kind, x.person(0, 0, 11), kind == 2 ? 5 : 0);
        }
    }

    private static void restOfChildrenInOneHour() {
        Doc.says("if it is a CHILD and the HOUR is the last one (of two or more)");
        EvenDays x = Due.told("treaty 1 1;kind 0 2;work 3 1 20 20 0;meant 0 0 0 0 3;meant 0 1 0 0 3");
        Due.is("the one hour", x.person(0, 0, 10), 3);
        Due.is("the one hour", x.person(1, 0, 10), 3);
        x.days(1);
        Due.is("half its bread", x.bread(0), 100010);
    }

    // ---- breaches

    private static void noBreachOfReleased() {
        Doc.says("A BREACH is in each HOUR of each PAIR that is not RELEASED, of which neither is ILL");
        for (int kind = 0; kind < 4; kind++) {
            EvenDays x = Due.told("treaty 1 4;kind 0 " + kind);
            x.done(0, 0, 0, 0);
            x.done(1, 0, 1, 0);
            Due.is("unlike on an even day, kind " + kind, x.breaches(0), kind == 3 ? 0 : 3);
            x.days(1);
            Due.is("alike on an odd day, kind " + kind, x.breaches(0), kind == 3 ? 0 : 15);
            Due.is("faults, kind " + kind, x.person(0, 0, 0), kind == 3 ? 0 : 1);
        }
    }

    private static void noBreachOfTheIll() {
        Doc.says("A BREACH is in each HOUR of each PAIR that is not RELEASED, of which neither is ILL");
        for (int who = 0; who < 4; who++) {
            EvenDays x = new EvenDays();
            x.days(1);
            x.ill(0, 0, (who & 1) != 0);
            x.ill(1, 0, (who & 2) != 0);
            Due.is("ill " + who, x.breaches(0), who == 0 ? 3 : 0);
            Due.is("the other pair", x.breaches(1), 3);
            x.days(1);
            Due.is("faults " + who, x.as(0, 0), who == 0 ? 4 : 0);
            Due.is("faults of the other pair", x.as(1, 0), 4);
        }
    }

    private static void breachOnEvenDays() {
        Doc.says("on EVEN DAYS, if the CLASSES of what both do are unlike, on ODD ones, if they are alike");
        breachesOfClasses(0);
    }

    private static void breachOnOddDays() {
        Doc.says("on EVEN DAYS, if the CLASSES of what both do are unlike, on ODD ones, if they are alike");
        breachesOfClasses(1);
    }

    private static void breachesOfClasses(int odd) {
        int[] classes = {0, 1, 2, 3, 0, 4};
        for (int one = 0; one < 6; one++) {
            EvenDays x = Due.told("treaty 1 1;work 1 1 0 0 0;work 2 2 0 0 0;work 3 3 0 0 0");
            if (odd == 1) x.days(1);
            for (int other = 0; other < 6; other++) {
                x.done(0, 0, 0, one);
                x.done(1, 0, 0, other);
                boolean alike = classes[one] == classes[other];
                Due.is(one + " with " + other, x.breaches(0), alike == (odd == 1) ? 1 : 0);
            }
        }
    }

    private static void faultsAre(EvenDays x, int one, int other) {
        Due.is("faults in valley 0", x.person(0, 0, 0), one);
        Due.is("faults in valley 1", x.person(1, 0, 0), other);
    }

    private static void byThoseTold() {
        Doc.says("It is by those of the two who were told to do otherwise than MEANT (a WORK unlike the one that is MEANT)");
        for (int who = 1; who < 4; who++) {
            EvenDays x = Due.told("treaty 1 1;work 1 1 0 0 0;work 2 2 0 0 0");
            if ((who & 1) != 0) x.done(0, 0, 0, 1);
            if ((who & 2) != 0) x.done(1, 0, 0, 2);
            Due.is("a breach", x.breaches(0), 1);
            x.days(1);
            faultsAre(x, who & 1, who >> 1);
        }
        // another work of the same class is unlike too, and the breach is all the same
        EvenDays x = Due.told("treaty 1 1;work 2 1 0 0 0;work 1 1 0 0 0;meant 1 0 0 0 1;meant 1 1 0 0 1");
        x.days(1);
        x.done(1, 0, 0, 2);
        x.days(1);
        faultsAre(x, 0, 1);
    }

    private static void byThoseToldWhatIsMeant() {
        Doc.says("It is by those of the two who were told to do otherwise than MEANT (a WORK unlike the one that is MEANT)");
        EvenDays x = Due.told("treaty 1 1;meant 0 0 0 0 1;meant 0 1 0 0 1;meant 1 0 0 0 2;meant 1 1 0 0 2");
        x.days(1);
        // on the odd day 2 is meant: told 2 is as meant, told 1 is what is meant on even days only
        x.done(0, 0, 0, 2);
        x.done(1, 0, 0, 1);
        x.days(1);
        faultsAre(x, 0, 1);
        x.days(1);
        x.done(0, 0, 0, 2);
        x.days(1);
        faultsAre(x, 1, 2);
        // told otherwise, and then as it is meant
        x.days(1);
        x.done(0, 0, 0, 1);
        x.done(0, 0, 0, 2);
        x.days(1);
        faultsAre(x, 2, 3);
    }

    private static void byThoseToldWhatCanNotBeDone() {
        Doc.says("It is by those of the two who were told to do otherwise than MEANT (a WORK unlike the one that is MEANT)");
        // rest is meant, and done by all: but one was told otherwise
        EvenDays lame = Due.told("treaty 1 1;kind 0 1;work 0 3 0 0 0");
        lame.days(1);
        lame.done(0, 0, 0, 0);
        Due.is("rest is done", lame.person(0, 0, 10), 5);
        lame.days(1);
        faultsAre(lame, 1, 0);
        // what is meant can not be done any more; rest, if told, is unlike it
        EvenDays x = Due.told("treaty 1 1;meant 1 0 0 0 1;meant 1 1 0 0 1;work 1 0 - - 0");
        x.days(1);
        x.done(1, 0, 0, 5);
        x.days(1);
        faultsAre(x, 0, 1);
        x.days(2);
        faultsAre(x, 1, 2);
    }

    private static void byBoth() {
        Doc.says("if neither was, by both");
        EvenDays even = Due.told("treaty 1 1;meant 0 1 0 0 0");
        even.days(1);
        faultsAre(even, 1, 1);
        EvenDays odd = Due.told("treaty 1 1");
        odd.days(1);
        faultsAre(odd, 0, 0);
        odd.days(1);
        faultsAre(odd, 1, 1);
        // told in another hour: this hour's breach is by both, that hour's by the one
        EvenDays hours = Due.told("treaty 1 2;meant 0 0 0 0 0");
        hours.done(1, 0, 1, 0);
        Due.is("both hours", hours.breaches(0), 3);
        hours.days(1);
        faultsAre(hours, 1, 2);
        // of another pair
        EvenDays pairs = Due.told("treaty 2 1;meant 0 0 0 0 0;meant 0 0 1 0 0");
        pairs.done(1, 1, 0, 1);
        pairs.days(1);
        faultsAre(pairs, 1, 1);
        Due.is("the other pair does alike", pairs.as(1, 0), 0);
    }

    private static void owes() {
        Doc.says("Each has a FAULT more, and owes FINE.");
        for (int fine : new int[] {0, 1, 99}) {
            EvenDays x = Due.told("treaty 6 4;fine " + fine);
            x.days(2);
            for (int i = 0; i < 12; i++) {
                Due.is("faults", x.person(i & 1, i >> 1, 0), 4);
                Due.is("owes", x.person(i & 1, i >> 1, 1), 4 * fine);
            }
            x.days(2);
            Due.is("faults", x.person(1, 5, 0), 8);
            Due.is("owes", x.person(1, 5, 1), 8 * fine);
        }
    }

    // ---- bread

    private static void breadMade() {
        Doc.says("BREAD of a VALLEY: more by that of all that is done there");
        EvenDays x = Due.told("treaty 6 4;work 0 0 20 1 0;work 1 1 1 20 0;work 2 2 0 0 0");
        for (int i = 0; i < 48; i++) x.done(i & 1, (i >> 1) % 6, (i >> 1) / 6, 0);
        x.days(1);
        Due.is("all of valley 0", x.bread(0), 100480);
        Due.is("all of valley 1", x.bread(1), 100024);
        x.done(0, 0, 0, 1);
        x.done(1, 5, 3, 1);
        x.done(1, 5, 2, 2);
        x.days(1);
        Due.is("one of valley 0", x.bread(0), 100481);
        Due.is("one of valley 1", x.bread(1), 100044);
        // rest, and what the ill were told, makes none; a breach does
        x.done(0, 0, 0, 5);
        x.done(0, 1, 0, 0);
        x.ill(0, 1, true);
        x.done(0, 2, 0, 0);
        Due.is("a breach", x.breaches(2), 1);
        x.days(1);
        Due.is("of the one alone", x.bread(0), 100501);
        Due.is("nothing in the other valley", x.bread(1), 100044);
    }

    private static void halfCut() {
        Doc.says("(of a CHILD half, cut)");
        int[] breads = {0, 1, 2, 3, 19, 20};
        int[] halves = {0, 0, 1, 1, 9, 10};
        for (int i = 0; i < breads.length; i++) {
            for (int kind = 0; kind < 4; kind++) {
                EvenDays x = Due.told("treaty 1 1;kind 0 " + kind + ";work 0 0 " + breads[i] + " " + breads[5 - i] + " 0");
                x.done(0, 0, 0, 0);
                x.done(1, 0, 0, 0);
                x.days(1);
                Due.is("valley 0 of kind " + kind, x.bread(0), 100000 + (kind == 2 ? halves[i] : breads[i]));
                Due.is("valley 1 of kind " + kind, x.bread(1), 100000 + (kind == 2 ? halves[5 - i] : breads[5 - i]));
            }
        }
    }

    private static void eaten() {
        Doc.says("less by EATS for each PAIR");
        for (int n = 1; n <= 6; n++) {
            for (int eats : new int[] {0, 1, 20}) {
                EvenDays x = Due.told("treaty " + n + " 4;kind " + (n - 1) + " 2;eats " + eats);
                x.ill(0, 0, true);
                x.days(1);
                Due.is("valley 0", x.bread(0), 100000 - n * eats);
                Due.is("valley 1", x.bread(1), 100000 - n * eats);
                x.days(9);
                Due.is("ten days", x.bread(0), 100000 - 10 * n * eats);
            }
        }
    }

    private static void belowNothing() {
        Doc.says("(It may be below nothing.)");
        EvenDays x = Due.told("treaty 6 1;eats 20");
        x.days(1);
        Due.is("below nothing", x.bread(0), 99880);
        for (int i = 0; i < 9; i++) x.days(99);
        Due.is("far below", x.bread(0), 100000 - 120 * 892);
        Due.isTrue("below nothing, with 100000 too", x.bread(1) < 0);
        for (int i = 0; i < 6; i++) x.done(0, i, 0, 0);
        Due.tell(x, "work 0 0 20 0 0");
        Due.is("nothing behind a text", x.bread(0), 100000);
    }

    private static void overThen() {
        Doc.says("What was told to be DONE otherwise is over then.");
        EvenDays x = Due.told("treaty 2 2;meant 0 0 0 0 1;meant 1 0 0 0 1");
        for (int i = 0; i < 8; i++) x.done(i & 1, i >> 1 & 1, i >> 2, 2);
        Due.is("does", x.person(0, 0, 10), 2);
        x.days(1);
        Due.is("does what is meant", x.person(0, 0, 10), 1);
        for (int i = 1; i < 8; i++) Due.is("rests", x.person(i & 1, i >> 1 & 1, 10 + (i >> 2)), 5);
        x.days(1);
        Due.is("does what is meant", x.person(0, 0, 10), 1);
        // of one who was ill it is over too
        x.ill(1, 1, true);
        x.done(1, 1, 1, 2);
        x.days(1);
        x.ill(1, 1, false);
        Due.is("rests", x.person(1, 1, 11), 5);
    }

    // ---- kinds

    private static final boolean[][] IS_SUCH = {
        {true, true, false, true, false, false, false}, {true, true, false, true, true, false, false},
        {true, true, false, false, false, true, false}, {true, false, true, false, false, false, true}};

    private static void asked() {
        Doc.says("0 PAIR; 1 BOUND, a PAIR; 2 FREE, a PAIR; PLAIN (3) is BOUND; LAME (4) is PLAIN; CHILD (5) is BOUND; RELEASED (6) is FREE.");
        for (int pair = 0; pair < 6; pair += 5) {
            for (int kind = 0; kind < 4; kind++) {
                EvenDays x = Due.told("treaty 6 1;kind " + pair + " " + kind);
                for (int as = 0; as < 7; as++) Due.is(kind + " as " + as, x.as(pair, as), IS_SUCH[kind][as] ? 0 : Due.NOT);
            }
        }
    }

    private static void askedFaults() {
        Doc.promises(14, "FAULTS of both.");
        for (int kind = 0; kind < 3; kind++) {
            EvenDays x = Due.told("treaty 3 1;kind 1 " + kind);
            x.done(0, 1, 0, 0);
            x.days(1);
            x.done(1, 1, 0, 0);
            x.done(1, 2, 0, 0);
            x.days(3);
            for (int as = 0; as < 7; as++) Due.is(kind + " as " + as, x.as(1, as), IS_SUCH[kind][as] ? 3 : Due.NOT);
            Due.is("another pair", x.as(0, 0), 4);
            Due.is("another pair", x.as(2, 0), 2);
        }
    }

    // ---- the promises

    private static void done() {
        Doc.promises(8, "On the DAY that comes a WORK (0 .. 5) is to be DONE otherwise: 1.");
        EvenDays x = new EvenDays();
        for (int work = 0; work < 6; work++) {
            Due.is("done " + work, x.done(1, 1, 1, work), 1);
            Due.is("does " + work, x.person(1, 1, 11), work);
        }
        Due.is("meant is as it was", x.meant(0, 1, 1, 1), 5);
        for (int work : FAR) Due.is("done " + work, x.done(1, 1, 1, work), Due.UNKNOWN);
        Due.is("done -1", x.done(1, 1, 1, -1), Due.UNKNOWN);
        Due.is("done 6", x.done(1, 1, 1, 6), Due.UNKNOWN);
        Due.is("does still", x.person(1, 1, 11), 5);
    }

    private static void doneNot() {
        Doc.promises(8, "NOT: it can not be done there.");
        EvenDays x = Due.told("treaty 2 2;work 1 0 - 0 0;work 2 0 0 - 0;kind 0 1;kind 1 2;work 3 3 1 1 0");
        x.done(0, 0, 0, 2);
        Due.is("not in valley 0", x.done(0, 0, 0, 1), Due.NOT);
        Due.is("what was told stays", x.person(0, 0, 10), 2);
        Due.is("in valley 1", x.done(1, 0, 0, 1), 1);
        Due.is("not in valley 1", x.done(1, 0, 0, 2), Due.NOT);
        Due.is("what was told stays", x.person(1, 0, 10), 1);
        // it can be done there, though not by these
        Due.is("a lame one, class 3", x.done(0, 0, 1, 3), 1);
        Due.is("a child, in the last hour", x.done(0, 1, 1, 3), 1);
        x.ill(1, 1, true);
        Due.is("an ill one", x.done(1, 1, 0, 3), 1);
    }

    private static void doneUnknown() {
        Doc.promises(8, "UNKNOWN: VALLEY, PAIR, HOUR, WORK; NOT: it can not be done there.");
        EvenDays x = Due.told("work 1 0 - - 0");
        Due.is("not", x.done(0, 0, 0, 1), Due.NOT);
        for (int wrong : new int[] {LEAST, -1, 2, MOST}) {
            Due.is("valley, and not", x.done(wrong, 0, 0, 1), Due.UNKNOWN);
            Due.is("pair, and not", x.done(0, wrong, 0, 1), Due.UNKNOWN);
            Due.is("hour, and not", x.done(0, 0, wrong, 1), Due.UNKNOWN);
            Due.is("valley", x.done(wrong, 0, 0, 0), Due.UNKNOWN);
            Due.is("pair", x.done(0, wrong, 0, 0), Due.UNKNOWN);
            Due.is("hour", x.done(0, 0, wrong, 0), Due.UNKNOWN);
        }
        for (int i = 0; i < 8; i++) Due.is("nothing was told", x.person(i & 1, i >> 1 & 1, 10 + (i >> 2)), 5);
    }

    private static void ill() {
        Doc.promises(9, "A person is ILL, or not any more: what it was (1, 0). UNKNOWN.");
        EvenDays x = Due.told("treaty 6 1");
        int[][] persons = {{0, 0}, {0, 5}, {1, 0}, {1, 5}};
        for (int[] p : persons) {
            Due.is("well, stays well", x.ill(p[0], p[1], false), 0);
            Due.is("well", x.ill(p[0], p[1], true), 0);
            Due.is("ill, stays ill", x.ill(p[0], p[1], true), 1);
            for (int[] other : persons) {
                if (other != p) Due.is("the others are well", x.ill(other[0], other[1], false), 0);
            }
            Due.is("ill", x.ill(p[0], p[1], false), 1);
            Due.is("well again", x.ill(p[0], p[1], false), 0);
        }
        for (int wrong : new int[] {LEAST, -1, 6, 32, MOST}) {
            Due.is("pair " + wrong, x.ill(0, wrong, true), Due.UNKNOWN);
            Due.is("pair " + wrong, x.ill(1, wrong, true), Due.UNKNOWN);
            Due.is("valley " + wrong, x.ill(wrong, 0, true), Due.UNKNOWN);
        }
        for (int i = 0; i < 12; i++) Due.is("all are well", x.ill(i & 1, i >> 1, false), 0);
    }

    private static void days() {
        Doc.promises(10, "n DAYS (1 .. 99) go");
        EvenDays x = new EvenDays();
        int gone = 0;
        for (int n : new int[] {1, 2, 98, 99, 99, 1}) {
            gone += n;
            Due.is("days " + n, x.days(n), gone);
            Due.is("count", x.count(4), gone);
        }
        // 300 days have gone: two breaches, by both, on each of the 150 odd ones
        Due.is("faults", x.person(1, 1, 0), 300);
    }

    private static void daysOutside() {
        Doc.promises(10, "how many have gone in all. OUTSIDE.");
        EvenDays x = Due.told("eats 1");
        x.done(0, 0, 0, 3);
        for (int n : new int[] {LEAST, -99, -1, 0, 100, MOST}) {
            Due.is("days " + n, x.days(n), Due.OUTSIDE);
            Due.is("count", x.count(4), 0);
            Due.is("bread", x.bread(0), 100000);
            Due.is("still told", x.person(0, 0, 10), 3);
        }
    }

    private static void toldOfTheFirst() {
        Doc.promises(10, "(what is told to be DONE otherwise is of the first of them)");
        EvenDays x = Due.told("treaty 1 1;work 0 0 7 0 0;fine 5");
        x.done(0, 0, 0, 0);
        x.days(3);
        Due.is("bread of one day", x.bread(0), 100007);
        // unlike on day 0 by the one told, alike on day 1 by both
        faultsAre(x, 2, 1);
        x.done(0, 0, 0, 0);
        x.days(99);
        Due.is("bread of one day more", x.bread(0), 100014);
    }

    private static void person() {
        Doc.promises(11, "FAULTS (what 0), what it owes (1), what it would do in an HOUR of the DAY that comes (10 and the HOUR).");
        EvenDays x = Due.told("treaty 1 4;fine 9;meant 0 0 0 0 1;meant 0 0 0 1 2;meant 0 0 0 2 3;meant 0 0 0 3 4");
        x.days(2);
        Due.is("faults", x.person(0, 0, 0), 8);
        Due.is("owes", x.person(0, 0, 1), 72);
        for (int hour = 0; hour < 4; hour++) Due.is("does", x.person(0, 0, 10 + hour), 1 + hour);
    }

    private static void personOutside() {
        Doc.promises(11, "UNKNOWN: VALLEY, PAIR; OUTSIDE.");
        for (int h = 1; h <= 4; h++) {
            EvenDays x = Due.told("treaty 1 " + h);
            for (int what : new int[] {LEAST, -1, 2, 3, 9, 10 + h, 14, 100, MOST}) {
                Due.is("what " + what, x.person(0, 0, what), Due.OUTSIDE);
                Due.is("pair goes ahead", x.person(0, 1, what), Due.UNKNOWN);
                Due.is("pair goes ahead", x.person(1, -1, what), Due.UNKNOWN);
                Due.is("valley goes ahead", x.person(2, 0, what), Due.UNKNOWN);
                Due.is("valley goes ahead", x.person(-1, 0, what), Due.UNKNOWN);
            }
            for (int what : new int[] {0, 1, 10, 10 + h - 1}) {
                Due.is("what " + what, x.person(0, 0, what), what < 10 ? 0 : 5);
                Due.is("pair", x.person(0, 1, what), Due.UNKNOWN);
                Due.is("valley", x.person(2, 0, what), Due.UNKNOWN);
            }
        }
    }

    private static void bread() {
        Doc.promises(12, "BREAD of a VALLEY, and 100000. UNKNOWN.");
        EvenDays x = Due.told("work 0 0 3 4 0;meant 0 0 0 0 0;meant 0 1 0 0 0");
        Due.is("none", x.bread(0), 100000);
        Due.is("none", x.bread(1), 100000);
        x.days(1);
        Due.is("valley 0", x.bread(0), 100003);
        Due.is("valley 1", x.bread(1), 100004);
        for (int valley : new int[] {LEAST, -1, 2, MOST}) Due.is("valley " + valley, x.bread(valley), Due.UNKNOWN);
    }

    private static void breachBits() {
        Doc.promises(13, "BREACHES on the DAY that comes, by bits of HOURS. UNKNOWN.");
        for (int bits = 0; bits < 16; bits++) {
            EvenDays x = Due.told("treaty 6 4");
            for (int hour = 0; hour < 4; hour++) {
                if ((bits >> hour & 1) != 0) x.done(hour & 1, 5, hour, 0);
            }
            Due.is("even", x.breaches(5), bits);
            Due.is("another pair", x.breaches(4), 0);
            x.days(1);
            Due.is("odd", x.breaches(5), 15);
            for (int hour = 0; hour < 4; hour++) {
                if ((bits >> hour & 1) != 0) x.done(hour & 1, 5, hour, 0);
            }
            Due.is("odd", x.breaches(5), 15 - bits);
            for (int pair : new int[] {LEAST, -1, 6, MOST}) Due.is("pair", x.breaches(pair), Due.UNKNOWN);
        }
    }

    private static void as() {
        Doc.promises(14, "A PAIR taken as a KIND (0 .. 6): FAULTS of both. UNKNOWN; OUTSIDE; NOT: it is none such.");
        EvenDays x = Due.told("kind 1 3");
        Due.is("0", x.as(1, 0), 0);
        Due.is("6", x.as(1, 6), 0);
        Due.is("not 1", x.as(1, 1), Due.NOT);
        Due.is("not 5", x.as(1, 5), Due.NOT);
        for (int kind : new int[] {LEAST, -1, 7, 8, MOST}) {
            Due.is("kind " + kind, x.as(1, kind), Due.OUTSIDE);
            Due.is("kind " + kind, x.as(0, kind), Due.OUTSIDE);
            for (int pair : new int[] {LEAST, -1, 2, MOST}) Due.is("pair goes ahead", x.as(pair, kind), Due.UNKNOWN);
        }
        for (int kind = 0; kind < 7; kind++) {
            for (int pair : new int[] {LEAST, -1, 2, 5, 6, MOST}) Due.is("pair " + pair, x.as(pair, kind), Due.UNKNOWN);
        }
    }

    // ---- images

    private static void keep() {
        Doc.promises(26, "are kept (k 0, 1): DAYS. UNKNOWN: no such k.");
        EvenDays x = new EvenDays();
        x.days(3);
        Due.is("keep 0", x.keep(0), 3);
        x.days(4);
        Due.is("keep 1", x.keep(1), 7);
        for (int k : new int[] {LEAST, -1, 2, MOST}) Due.is("keep " + k, x.keep(k), Due.UNKNOWN);
        x.days(1);
        Due.is("back 0", x.back(0), 3);
        Due.is("back 1", x.back(1), 7);
        for (int k : new int[] {LEAST, -1, 2, MOST}) Due.is("back " + k, x.back(k), Due.UNKNOWN);
        Due.is("days", x.count(4), 7);
    }

    private static void keptIsWhole() {
        Doc.promises(26, "DAYS, BREAD, FAULTS, what is owed, who is ILL, what is DONE otherwise are kept");
        for (int round = 0; round < 4; round++) {
            int k = round & 1;
            EvenDays x = Due.told("treaty 6 4;work 0 0 3 4 0;eats 1;fine 2;meant 0 0 0 0 0;meant 1 1 5 3 0");
            x.days(5);
            // the first and the last of all, or all but these
            for (int i = 0; i < 12; i++) if ((i == 0 || i == 11) == (round < 2)) x.ill(i & 1, i >> 1, true);
            for (int i = 0; i < 48; i++) x.done(i & 1, (i >> 1) % 6, (i >> 1) / 6, (i + round) % 5);
            int[] before = seen(x);
            Due.is("keep", x.keep(k), 5);
            for (int i = 0; i < 12; i++) x.ill(i & 1, i >> 1, false);
            x.days(8);
            for (int i = 0; i < 12; i++) if ((i == 0 || i == 11) == (round > 1)) x.ill(i & 1, i >> 1, true);
            for (int i = 0; i < 48; i++) x.done(i & 1, (i >> 1) % 6, (i >> 1) / 6, 4 - (i + round) % 5);
            x.days(1);
            Due.is("back", x.back(k), 5);
            int[] after = seen(x);
            for (int i = 0; i < before.length; i++) Due.is("seen " + i, after[i], before[i]);
            for (int i = 0; i < 12; i++) {
                Due.is("ill", x.ill(i & 1, i >> 1, false), (i == 0 || i == 11) == (round < 2) ? 1 : 0);
            }
            // of who was ill too it is known again what was told
            for (int i = 0; i < 48; i++) Due.is("told", x.person(i & 1, (i >> 1) % 6, 10 + (i >> 1) / 6), (i + round) % 5);
        }
    }

    private static int[] seen(EvenDays x) {
        int[] seen = new int[75];
        seen[0] = x.count(4);
        seen[1] = x.bread(0);
        seen[2] = x.bread(1);
        for (int i = 0; i < 12; i++) {
            seen[3 + 6 * i] = x.person(i & 1, i >> 1, 0);
            seen[4 + 6 * i] = x.person(i & 1, i >> 1, 1);
            for (int hour = 0; hour < 4; hour++) seen[5 + 6 * i + hour] = x.person(i & 1, i >> 1, 10 + hour);
        }
        return seen;
    }

    private static void keptStays() {
        Doc.promises(27, "It is as it was kept: DAYS.");
        EvenDays x = Due.told("eats 1");
        x.keep(0);
        x.days(2);
        x.keep(1);
        for (int i = 0; i < 3; i++) {
            Due.is("back 0", x.back(0), 0);
            Due.is("bread", x.bread(0), 100000);
            x.done(0, 0, 0, 1);
            x.days(1);
            x.ill(0, 0, true);
            Due.is("back 1", x.back(1), 2);
            Due.is("bread", x.bread(0), 99996);
            Due.is("not told", x.person(0, 0, 10), 5);
            Due.is("not ill", x.ill(0, 0, true), 0);
        }
        // harm, liking, the record and the text are no part of it
        x.harm(0, 1, 7);
        x.record(true);
        x.write(' ', 1);
        x.back(0);
        Due.is("rows", x.count(5), 1);
        Due.is("bytes", x.count(6), 1);
        Due.is("harm", x.harm(0, 1, 0), 7);
        Due.is("keep over it", x.keep(1), 0);
        x.days(1);
        Due.is("the newer one", x.back(1), 0);
    }

    private static void backNot() {
        Doc.promises(27, "UNKNOWN; NOT: nothing was kept since the last text.");
        for (int k = 0; k < 2; k++) {
            EvenDays x = new EvenDays();
            Due.is("back 0", x.back(0), Due.NOT);
            Due.is("back 1", x.back(1), Due.NOT);
            for (int wrong : new int[] {LEAST, -1, 2, MOST}) Due.is("unknown goes ahead", x.back(wrong), Due.UNKNOWN);
            x.days(5);
            x.keep(k);
            x.days(1);
            Due.is("the other one was not kept", x.back(1 - k), Due.NOT);
            Due.is("nothing changed", x.count(4), 6);
            Due.is("this one was", x.back(k), 5);
        }
    }

    private static void backNotBehindATreaty() {
        Doc.promises(27, "NOT: nothing was kept since the last text.");
        EvenDays x = new EvenDays();
        x.keep(0);
        x.keep(1);
        Due.write(x, "fine");
        x.fault();
        Due.is("a text that is refused", x.treaty(), Due.NOT);
        Due.is("still kept", x.back(0), 0);
        x.erase();
        Due.is("still kept", x.back(1), 0);
        Due.write(x, "fine 1");
        Due.is("a text that is not done yet", x.back(0), 0);
        Due.is("the text", x.treaty(), 1);
        Due.is("no more", x.back(0), Due.NOT);
        Due.is("no more", x.back(1), Due.NOT);
        x.keep(1);
        Due.is("0 was not kept since", x.back(0), Due.NOT);
        Due.is("1 was", x.back(1), 0);
    }

    private static void lastCall() {
        Doc.says("An object is used for at most 512 calls after it has been made");
        EvenDays x = new EvenDays();
        int calls = 0;
        String text = "treaty 6 4;work 0 0 20 0 0;eats 20;fine 99;kind 0 3;meant 1 0 0 0 0;meant 0 0 0 0 0";
        for (int from = 0; from < text.length(); from++) {
            x.write(text.charAt(from), 1);
            calls++;
        }
        x.treaty();
        calls++;
        int gone = 0;
        while (calls < 508) {
            x.days(99);
            calls++;
            gone += 99;
        }
        Due.is("the 509th: bread", x.bread(0), 100000 - 100 * gone);
        Due.is("the 510th: faults", x.person(1, 5, 0), gone / 2 * 4);
        Due.is("the 511th: owed", x.person(1, 5, 1), gone / 2 * 4 * 99);
        Due.is("the 512th: days", x.count(4), gone);
    }
}
