import java.util.Arrays;

/** Paragraph 3 and promises 15 to 25, sentence by sentence: what is just inside, and just outside. */
public final class PlanBoundsTest {
    private static final int LEAST = Integer.MIN_VALUE, MOST = Integer.MAX_VALUE;

    public static void main(String[] args) {
        worksOfPlans();
        worksOfPlansByKinds();
        withoutIllOnes();
        noBreachInPlans();
        breadOfBoth();
        breadEnough();
        breadEnoughAtTheMost();
        breadAsItIsMade();
        greatestWorth();
        firstByWorks();
        firstByPairsAndHours();
        noPlan();
        plan();
        planOutside();
        planned();
        plannedRefused();
        newsTake();
        newsDoesClass0();
        newsHours();
        newsLate();
        newsClasses();
        newsAlike();
        newsNeverAlike();
        newsNone();
        newsOutside();
        harms();
        harmsStay();
        anewFirst();
        anewOneToOne();
        forced();
        harmRefused();
        anewRefused();
        forcedRefused();
        likings();
        likingOfBoth();
        foursOfAll();
        foursAtTheMost();
        likeRefused();
        foursOutside();
        rows();
        rowsFull();
        rowsRight();
        slipDays();
        slipsTillTheNext();
        costs();
        fewest();
        latest();
        slipsOutside();
        burn();
        everyShortRecord();
        Doc.end("PlanBoundsTest");
    }

    // ---- plans

    private static void worksOfPlans() {
        Doc.says("for each PAIR and HOUR two WORKS that they may do (as above, without ILL ones; RELEASED ones any)");
        String works = "work 0 0 - 9 9;work 1 0 9 - 9;work 2 0 1 1 1;work 3 1 - - 20;work 4 1 - - 20";
        EvenDays x = Due.told("treaty 1 1", works);
        Due.is("worth of both", x.plan(0, 0, 0), 18);
        Due.is("1 in valley 0", x.planned(0, 0, 0, 0, 0), 1);
        Due.is("0 in valley 1", x.planned(0, 0, 1, 0, 0), 0);
        Due.is("odd: one rests", x.plan(1, 0, 0), 9);
        Due.is("1 in valley 0", x.planned(1, 0, 0, 0, 0), 1);
        Due.is("rest in valley 1", x.planned(1, 0, 1, 0, 0), 5);
        EvenDays free = Due.told("treaty 1 1;kind 0 3", works);
        Due.is("released: any that can be done there", free.plan(1, 0, 0), 18);
        Due.is("1 in valley 0", free.planned(1, 0, 0, 0, 0), 1);
        Due.is("0 in valley 1", free.planned(1, 0, 1, 0, 0), 0);
        EvenDays none = Due.told("treaty 1 1;work 0 0 - - 9;work 1 0 - - 9;work 2 0 - - 9;work 3 0 - - 9;work 4 0 - - 9");
        Due.is("rest is always left", none.plan(0, 0, 0), 0);
        Due.is("rest", none.planned(0, 0, 0, 0, 0), 5);
        Due.is("rest", none.planned(0, 0, 1, 0, 0), 5);
        Due.is("odd: none", none.plan(1, 0, 0), Due.NONE);
    }

    private static void worksOfPlansByKinds() {
        Doc.says("for each PAIR and HOUR two WORKS that they may do (as above, without ILL ones; RELEASED ones any)");
        for (int c = 2; c < 4; c++) {
            for (int kind = 0; kind < 4; kind++) {
                EvenDays x = Due.told("treaty 1 2;work 0 " + c + " 0 0 8;work 1 " + c + " 0 0 8;work 2 " + c + " 0 0 8",
                        "work 3 " + c + " 0 0 8;work 4 " + c + " 0 0 8;kind 0 " + kind);
                int first = kind == 1 && c == 3 ? 0 : 16, last = kind == 1 && c == 3 || kind == 2 ? 0 : 16;
                Due.is("kind " + kind + " class " + c, x.plan(0, 0, 0), first + last);
                Due.is("the first hour", x.planned(0, 0, 0, 0, 0), first == 0 ? 5 : 0);
                Due.is("the last hour", x.planned(0, 0, 1, 0, 1), last == 0 ? 5 : 0);
            }
        }
        for (int h = 1; h <= 4; h++) {
            EvenDays x = Due.told("treaty 1 " + h + ";kind 0 2;work 0 0 2 2 7");
            Due.is("a child in " + h + " hours", x.plan(0, 0, 0), h == 1 ? 14 : 14 * (h - 1));
            Due.is("odd", x.plan(1, 0, 0), h == 1 ? 7 : Due.NONE);
        }
    }

    private static void withoutIllOnes() {
        Doc.says("for each PAIR and HOUR two WORKS that they may do (as above, without ILL ones; RELEASED ones any)");
        EvenDays x = Due.told("treaty 1 2;work 0 0 3 3 4");
        for (int odd = 0; odd < 2; odd++) {
            int worth = odd == 0 ? 16 : 8, bread = odd == 0 ? 12 : 6;
            Due.is("all well", x.plan(odd, 0, 0), worth);
            x.ill(0, 0, true);
            x.ill(1, 0, true);
            x.done(0, 0, 0, 5);
            Due.is("ill, and told otherwise", x.plan(odd, 0, 0), worth);
            Due.is("its bread", x.plan(odd, 0, 1), bread);
            Due.is("does", x.planned(odd, bread, 0, 0, 1), 0);
            x.days(1);
            Due.is("a day later", x.plan(odd, bread, 0), worth);
        }
    }

    private static void noBreachInPlans() {
        Doc.says("so that there is no BREACH");
        // 0 and 1 are of a class, 2 is of another; the best two are 1 and 2
        EvenDays x = Due.told("treaty 2 1;kind 1 3;work 0 0 0 0 3;work 1 0 0 0 5;work 2 1 0 0 4;work 3 2 - - 0;work 4 2 - - 0");
        int[][] due = {{1, 1, 1, 1}, {1, 2, 1, 1}};
        Due.is("even", x.plan(0, 0, 0), 20);
        Due.is("odd", x.plan(1, 0, 0), 19);
        for (int odd = 0; odd < 2; odd++) {
            for (int i = 0; i < 4; i++) Due.is("does", x.planned(odd, 0, i & 1, i >> 1, 0), due[odd][i]);
        }
        EvenDays rest = Due.told("treaty 1 1;work 0 3 0 0 0;work 1 3 0 0 0;work 2 3 0 0 0;work 3 3 0 0 0;work 4 3 0 0 0");
        Due.is("class 3 and rest are unlike", rest.plan(1, 0, 0), 0);
        Due.is("work", rest.planned(1, 0, 0, 0, 0), 0);
        Due.is("rest", rest.planned(1, 0, 1, 0, 0), 5);
        Due.is("even: both work", rest.planned(0, 0, 1, 0, 0), 0);
    }

    private static void breadOfBoth() {
        Doc.says("with BREAD of both VALLEYS together (as it is made, without EATS)");
        EvenDays x = Due.told("treaty 1 1;work 0 0 0 0 9;work 1 0 20 0 0;work 2 0 0 20 1;work 3 1 - - 0;work 4 1 - - 0;eats 20");
        Due.is("20: of valley 1 alone", x.plan(0, 20, 0), 10);
        Due.is("0 in valley 0", x.planned(0, 20, 0, 0, 0), 0);
        Due.is("2 in valley 1", x.planned(0, 20, 1, 0, 0), 2);
        Due.is("21: of both", x.plan(0, 21, 0), 1);
        Due.is("40: of both", x.plan(0, 40, 0), 1);
        Due.is("its bread", x.plan(0, 40, 1), 40);
        Due.is("41", x.plan(0, 41, 0), Due.NONE);
        x.days(3);
        Due.is("nothing is eaten of it", x.plan(0, 40, 0), 1);
    }

    private static void breadEnough() {
        Doc.says("at least so much (0 .. 200)");
        for (int bread = 1; bread <= 20; bread++) {
            EvenDays x = Due.told("treaty 2 2;work 0 0 0 0 1;work 1 0 " + bread + " 0 0");
            for (int times = 0; times < 4; times++) {
                // each time one in valley 0 does 1 in place of 0
                Due.is("just enough", x.plan(0, times * bread, 0), 8 - times);
                Due.is("its bread", x.plan(0, times * bread, 1), times * bread);
                Due.is("one more", x.plan(0, times * bread + 1, 0), 7 - times);
                Due.is("its bread", x.plan(0, times * bread + 1, 1), times * bread + bread);
            }
            Due.is("the most there is", x.plan(0, 4 * bread, 0), 4);
            Due.is("one more than there is", x.plan(0, 4 * bread + 1, 0), Due.NONE);
        }
    }

    private static void breadEnoughAtTheMost() {
        Doc.says("at least so much (0 .. 200)");
        EvenDays just = Due.told("treaty 5 1;work 0 0 20 20 20");
        Due.is("just 200", just.plan(0, 200, 0), 200);
        Due.is("its bread", just.plan(0, 200, 1), 200);
        Due.is("does", just.planned(0, 200, 1, 4, 0), 0);
        Due.is("201", just.plan(0, 201, 0), Due.OUTSIDE);
        EvenDays less = Due.told("treaty 5 1;work 0 0 20 20 20;work 1 1 19 20 20;kind 4 1;work 0 3 20 20 20");
        Due.is("199 there are", less.plan(0, 199, 0), 200);
        Due.is("its bread", less.plan(0, 199, 1), 199);
        Due.is("200 there are not", less.plan(0, 200, 0), Due.NONE);
        Due.is("200 there are not", less.plan(0, 200, 1), Due.NONE);
        Due.is("200 there are not", less.planned(0, 200, 0, 0, 0), Due.NONE);
        EvenDays more = Due.told("treaty 6 4;work 0 0 20 20 20");
        for (int need : new int[] {0, 1, 199, 200}) {
            Due.is("960 there are", more.plan(0, need, 1), 960);
            Due.is("960 there are", more.plan(0, need, 0), 960);
            Due.is("odd: half", more.plan(1, need, 0), 480);
            Due.is("odd: half", more.plan(1, need, 1), 480);
        }
    }

    private static void breadAsItIsMade() {
        Doc.says("(as it is made, without EATS)");
        EvenDays child = Due.told("treaty 1 3;kind 0 2;work 0 0 5 7 1;eats 20");
        Due.is("half, cut, of each work", child.plan(0, 0, 1), 10);
        Due.is("10", child.plan(0, 10, 0), 4);
        Due.is("11", child.plan(0, 11, 0), Due.NONE);
        EvenDays one = Due.told("treaty 1 1;kind 0 2;work 0 0 1 1 1;work 1 1 1 1 1");
        Due.is("half of 1 is nothing", one.plan(0, 0, 1), 0);
        Due.is("half of 1 is nothing", one.plan(0, 1, 0), Due.NONE);
        Due.is("half of 1 is nothing", one.plan(1, 1, 0), Due.NONE);
    }

    private static void greatestWorth() {
        Doc.says("that of the greatest WORTH (of both together)");
        for (int n = 1; n <= 6; n++) {
            for (int h = 1; h <= 4; h++) {
                EvenDays x = Due.told("treaty " + n + " " + h + ";work 2 0 0 0 20;work 4 1 0 0 19");
                Due.is("even", x.plan(0, 0, 0), 40 * n * h);
                Due.is("odd", x.plan(1, 0, 0), 39 * n * h);
                Due.is("even", x.planned(0, 0, 1, n - 1, h - 1), 2);
                Due.is("odd", x.planned(1, 0, 0, n - 1, h - 1), 2);
                Due.is("odd", x.planned(1, 0, 1, n - 1, h - 1), 4);
            }
        }
    }

    private static void firstByWorks() {
        Doc.says("of several the first (PAIR by PAIR, HOUR by HOUR, by the WORK in VALLEY 0, then in VALLEY 1)");
        // two sums of 5: 1 with 4 and 4 with 1; 2 with 3 and 3 with 2
        EvenDays x = Due.told("treaty 1 1;work 0 0 0 0 0;work 1 0 0 0 1;work 2 1 0 0 2;work 3 2 0 0 2;work 4 3 0 0 3;kind 0 3");
        Due.is("both do the best, if they are free", x.plan(1, 0, 0), 6);
        Due.tell(x, "kind 0 0");
        Due.is("odd", x.plan(1, 0, 0), 5);
        Due.is("valley 0 goes ahead", x.planned(1, 0, 0, 0, 0), 2);
        Due.is("then valley 1", x.planned(1, 0, 1, 0, 0), 4);
        Due.tell(x, "work 3 2 0 0 3");
        Due.is("odd", x.planned(1, 0, 0, 0, 0), 3);
        Due.is("odd", x.planned(1, 0, 1, 0, 0), 4);
        EvenDays same = Due.told("work 0 0 0 0 4;work 1 0 0 0 4;work 2 0 0 0 4;work 3 0 0 0 4;work 4 0 0 0 4");
        for (int i = 0; i < 8; i++) Due.is("even", same.planned(0, 0, i & 1, i >> 1 & 1, i >> 2), 0);
        for (int i = 0; i < 8; i++) Due.is("odd", same.planned(1, 0, i & 1, i >> 1 & 1, i >> 2), i % 2 == 0 ? 0 : 5);
        // by the works alone: more bread, if it isn't needed, is no reason
        Due.tell(same, "work 0 0 0 0 4;work 1 0 20 20 4");
        for (int i = 0; i < 8; i++) Due.is("even", same.planned(0, 0, i & 1, i >> 1 & 1, i >> 2), 0);
        Due.is("no bread", same.plan(0, 0, 1), 0);
    }

    private static void firstByPairsAndHours() {
        Doc.says("of several the first (PAIR by PAIR, HOUR by HOUR, by the WORK in VALLEY 0, then in VALLEY 1)");
        // 1 makes 9; who makes it is the last of all: valley 1 ahead of valley 0, the last hour, the last pair
        EvenDays x = Due.told("treaty 2 2;work 1 0 9 9 0");
        int[] order = {7, 6, 5, 4, 3, 2, 1, 0};
        for (int makers = 0; makers <= 8; makers++) {
            int[] due = new int[8];
            for (int i = 0; i < makers; i++) due[order[i]] = 1;
            for (int i = 0; i < 8; i++) {
                Due.is(makers + " make it", x.planned(0, 9 * makers, i & 1, i >> 2, i >> 1 & 1), due[i]);
            }
        }
        Due.is("nine can not", x.plan(0, 73, 0), Due.NONE);
    }

    private static void noPlan() {
        Doc.says("then in VALLEY 1); none.");
        EvenDays x = Due.told("treaty 3 2;kind 1 2");
        Due.is("a child on odd days", x.plan(1, 0, 0), Due.NONE);
        Due.is("a child on odd days", x.plan(1, 0, 1), Due.NONE);
        Due.is("nor for another pair", x.planned(1, 0, 0, 0, 0), Due.NONE);
        Due.is("even: worth 0 is a plan", x.plan(0, 0, 0), 0);
        Due.is("even: bread 0 is a plan", x.plan(0, 0, 1), 0);
        Due.is("even: too much bread", x.plan(0, 1, 0), Due.NONE);
        Due.is("even: too much bread", x.planned(0, 1, 1, 2, 1), Due.NONE);
        Due.tell(x, "kind 1 1");
        Due.is("no child any more", x.plan(1, 0, 0), 0);
        for (int i = 0; i < 24; i++) {
            EvenDays poor = Due.told("treaty " + (1 + i / 4) + " " + (1 + i % 4));
            for (int odd = 0; odd < 2; odd++) {
                Due.is("no bread is needed", poor.plan(odd, 0, 1), 0);
                Due.is("1 is needed", poor.plan(odd, 1, 0), Due.NONE);
                Due.is("199 are needed", poor.plan(odd, 199, 0), Due.NONE);
                Due.is("200 are needed", poor.plan(odd, 200, 0), Due.NONE);
            }
        }
    }

    private static void plan() {
        Doc.promises(15, "A PLAN: its WORTH (what 0), its BREAD (1); NONE: there is none.");
        EvenDays x = Due.told("treaty 1 1;work 0 0 5 6 7;work 1 1 1 2 3;work 2 1 0 0 0;work 3 1 0 0 0;work 4 1 0 0 0");
        Due.is("worth", x.plan(0, 0, 0), 14);
        Due.is("bread", x.plan(0, 0, 1), 11);
        Due.is("odd worth", x.plan(1, 0, 0), 10);
        Due.is("odd bread: of 0 with 1", x.plan(1, 0, 1), 7);
        Due.is("odd 7", x.plan(1, 7, 1), 7);
        Due.is("odd 8", x.plan(1, 8, 1), Due.NONE);
        Due.is("odd 8", x.plan(1, 8, 0), Due.NONE);
    }

    private static void planOutside() {
        Doc.promises(15, "OUTSIDE: even, bread, what.");
        EvenDays x = new EvenDays();
        for (int wrong : new int[] {LEAST, -1, 2, MOST}) {
            Due.is("even " + wrong, x.plan(wrong, 0, 0), Due.OUTSIDE);
            Due.is("what " + wrong, x.plan(0, 0, wrong), Due.OUTSIDE);
            // where there is no plan too
            Due.is("what " + wrong, x.plan(0, 200, wrong), Due.OUTSIDE);
            Due.is("even " + wrong, x.plan(wrong, 200, 1), Due.OUTSIDE);
        }
        for (int wrong : new int[] {LEAST, -200, -1, 201, 400, MOST}) {
            Due.is("bread " + wrong, x.plan(0, wrong, 0), Due.OUTSIDE);
            Due.is("bread " + wrong, x.plan(1, wrong, 1), Due.OUTSIDE);
        }
        Due.is("even 1, what 1", x.plan(1, 0, 1), 0);
        Due.is("bread 200", x.plan(1, 200, 1), Due.NONE);
    }

    private static void planned() {
        Doc.promises(16, "What a person does in it; NONE: there is none.");
        EvenDays x = Due.told("treaty 6 4;work 3 1 4 4 9;kind 0 3;kind 5 2");
        for (int i = 0; i < 48; i++) {
            int pair = (i >> 1) % 6, hour = (i >> 1) / 6;
            Due.is("even", x.planned(0, 0, i & 1, pair, hour), pair == 5 && hour == 3 ? 5 : 3);
            Due.is("odd", x.planned(1, 0, i & 1, pair, hour), Due.NONE);
        }
        Due.is("most bread", x.plan(0, 172, 1), 172);
        Due.is("most bread", x.planned(0, 172, 1, 5, 3), 5);
        Due.is("more", x.planned(0, 173, 1, 5, 3), Due.NONE);
        Due.tell(x, "kind 5 1;work 3 3 5 5 9");
        for (int odd = 0; odd < 2; odd++) {
            Due.is("behind a text: the worth", x.plan(odd, 0, 0), odd == 0 ? 360 : 216);
            Due.is("behind a text: the lame", x.planned(odd, 0, odd, 5, 3), odd == 0 ? 0 : 5);
            Due.is("behind a text: the released", x.planned(odd, 0, odd, 0, 0), 3);
        }
    }

    private static void plannedRefused() {
        Doc.promises(16, "UNKNOWN: VALLEY, PAIR, HOUR; OUTSIDE.");
        EvenDays x = new EvenDays();
        int[] evens = {0, 0, 0, 0, LEAST, -1, 2, MOST}, breads = {LEAST, -1, 201, MOST, 0, 0, 0, 0};
        for (int i = 0; i < 8; i++) {
            Due.is("outside", x.planned(evens[i], breads[i], 1, 1, 1), Due.OUTSIDE);
            for (int wrong : new int[] {LEAST, -1, 2, MOST}) {
                Due.is("valley goes ahead", x.planned(evens[i], breads[i], wrong, 0, 0), Due.UNKNOWN);
                Due.is("pair goes ahead", x.planned(evens[i], breads[i], 0, wrong, 0), Due.UNKNOWN);
                Due.is("hour goes ahead", x.planned(evens[i], breads[i], 0, 0, wrong), Due.UNKNOWN);
            }
        }
        for (int wrong : new int[] {LEAST, -1, 2, MOST}) {
            Due.is("valley, and there is none", x.planned(0, 200, wrong, 0, 0), Due.UNKNOWN);
            Due.is("pair, and there is none", x.planned(0, 200, 0, wrong, 0), Due.UNKNOWN);
            Due.is("hour, and there is none", x.planned(0, 200, 0, 0, wrong), Due.UNKNOWN);
            Due.is("valley", x.planned(1, 0, wrong, 0, 0), Due.UNKNOWN);
            Due.is("pair", x.planned(1, 0, 0, wrong, 0), Due.UNKNOWN);
            Due.is("hour", x.planned(1, 0, 0, 0, wrong), Due.UNKNOWN);
        }
        Due.is("fits", x.planned(1, 0, 1, 1, 1), 5);
    }

    // ---- news

    private static void newsTake() {
        Doc.says("NEWS take l HOURS (0 .. 9).");
        EvenDays x = new EvenDays();
        for (int l : new int[] {LEAST, -2, -1, 10, 11, MOST}) Due.is("l " + l, x.news(0, 12, l, true), Due.OUTSIDE);
        for (int l = 0; l <= 9; l++) {
            Due.is("a change in hour " + l, x.news(-1 << 2 * l, 12, l, true), 1);
            if (l > 0) Due.is("a change in hour " + (l - 1), x.news(-1 << 2 * l - 2, 12, l, true), Due.NONE);
        }
    }

    private static void newsDoesClass0() {
        Doc.says("VALLEY 0 does CLASSES told (0 .. 3). VALLEY 1 does CLASS 0, till news let it change");
        EvenDays x = new EvenDays();
        for (int c = 0; c < 4; c++) {
            int all = 0x555555 * c;
            Due.is("alike at once, class " + c, x.news(all, 12, 0, true), c == 0 ? 0 : 1);
            Due.is("alike late, class " + c, x.news(all, 12, 1, true), c == 0 ? 0 : Due.NONE);
            Due.is("never at once, class " + c, x.news(all, 12, 0, false), c == 0 ? 1 : 0);
            Due.is("never late, class " + c, x.news(all, 12, 1, false), c == 0 ? Due.NONE : 0);
        }
    }

    private static void newsHours() {
        Doc.says("In a row of HOURS 0 .. m less 1 (m 1 .. 12)");
        EvenDays x = new EvenDays();
        for (int m = 1; m <= 12; m++) {
            // the last hour is told, the one behind it is not
            Due.is("class 1 in the last of " + m, x.news(1 << 2 * m - 2, m, 0, true), 1);
            Due.is("class 1 behind the last of " + m, x.news(1 << 2 * m, m, 0, true), 0);
            Due.is("class 0 in the last of " + m, x.news(0x555555 & ~(3 << 2 * m - 2), m, 0, false), 1);
            Due.is("class 0 behind the last of " + m, x.news(0x555555 & (1 << 2 * m) - 1, m, 0, false), 0);
        }
    }

    private static void newsLate() {
        Doc.says("each change is one message, none can be ahead of HOUR l");
        for (int l = 0; l <= 9; l++) {
            EvenDays x = new EvenDays();
            for (int hour = 0; hour < 12; hour++) {
                boolean isAhead = hour < l;
                // class 1 in this hour alone: there and back
                Due.is("alike, l " + l + " hour " + hour, x.news(1 << 2 * hour, 12, l, true), isAhead ? Due.NONE : hour == 11 ? 1 : 2);
                // class 1 but in this hour: valley 1 must not do 0 any more
                Due.is("never, l " + l + " hour " + hour, x.news(0x555555 ^ 1 << 2 * hour, 12, l, false), isAhead ? Due.NONE : 1);
            }
        }
    }

    private static void newsClasses() {
        Doc.promises(17, "(CLASS in HOUR k classes >> 2 k & 3.)");
        EvenDays x = new EvenDays();
        for (int c = 0; c < 4; c++) {
            for (int hour = 0; hour < 12; hour++) {
                Due.is("class " + c, x.news(c << 2 * hour, hour + 1, hour > 9 ? 9 : hour, true), c == 0 ? 0 : 1);
            }
            Due.is("class " + c + " in hour 0", x.news(c, 1, 0, false), c == 0 ? 1 : 0);
            Due.is("class " + c + " in hour 0, late", x.news(c, 1, 1, true), c == 0 ? 0 : Due.NONE);
        }
        Due.is("the bits behind are nothing", x.news(0xff000000, 12, 9, true), 0);
        Due.is("the bits behind are nothing", x.news(0xff555555, 12, 9, false), 0);
        Due.is("all bits", x.news(-1, 12, 0, true), 1);
        Due.is("all bits but the sign", x.news(MOST, 12, 0, true), 1);
        Due.is("the sign alone", x.news(LEAST, 12, 9, true), 0);
    }

    private static void newsAlike() {
        Doc.says("ALIKE: how many messages so that it does the same CLASS in each HOUR");
        EvenDays x = new EvenDays();
        Due.is("none", x.news(0, 12, 0, true), 0);
        Due.is("one in each hour", x.news(0x999999, 12, 0, true), 12);
        Due.is("one in each hour but the first", x.news(0x444444, 12, 1, true), 11);
        Due.is("that one is late", x.news(0x444444, 12, 2, true), Due.NONE);
        Due.is("at hour 9", x.news(3 << 18, 10, 9, true), 1);
        Due.is("and back", x.news(3 << 18, 11, 9, true), 2);
        Due.is("at hour 8", x.news(3 << 16, 10, 9, true), Due.NONE);
        Due.is("no hour is left for any", x.news(0, 9, 9, true), 0);
        Due.is("no hour is left for any", x.news(1 << 16, 9, 9, true), Due.NONE);
    }

    private static void newsNeverAlike() {
        Doc.says("NEVER ALIKE: how many at least so that it does another one (of 0 .. 3) in each; none.");
        EvenDays x = new EvenDays();
        Due.is("none", x.news(0x555555, 12, 9, false), 0);
        Due.is("0 in hour 0", x.news(0, 12, 0, false), 1);
        Due.is("0 in hour 0, late", x.news(0, 12, 1, false), Due.NONE);
        Due.is("0 in hour 9", x.news(0x555555 ^ 1 << 18, 12, 9, false), 1);
        Due.is("0 in hour 8", x.news(0x555555 ^ 1 << 16, 12, 9, false), Due.NONE);
        // 1 2 3 1 2 3 ..: class 0 does; with 0 in between it has to do another one for an hour
        Due.is("1 2 3 ..", x.news(0xe79e79, 12, 0, false), 0);
        Due.is("0 1 2 3 0 1 2 3 0 1 2 3", x.news(0xe4e4e4, 12, 0, false), 4);
        Due.is("in time", x.news(0xe4e4e4 | 3, 12, 4, false), 3);
        Due.is("late by one", x.news(0xe4e4e4 | 3, 12, 5, false), Due.NONE);
        Due.is("three are enough for 3", x.news(3 << 2, 1, 0, false), 1);
    }

    private static void newsNone() {
        Doc.promises(17, "Messages: ALIKE (alike true), NEVER ALIKE; NONE: it can not be.");
        EvenDays x = new EvenDays();
        Due.is("alike", x.news(1, 1, 0, true), 1);
        Due.is("never alike", x.news(1, 1, 0, false), 0);
        Due.is("alike can not be", x.news(1, 1, 1, true), Due.NONE);
        Due.is("never alike can", x.news(1, 1, 1, false), 0);
        Due.is("alike can", x.news(0, 1, 1, true), 0);
        Due.is("never alike can not be", x.news(0, 1, 1, false), Due.NONE);
        // what can not be in the first hour is mended by none that comes later
        Due.is("alike can not be", x.news(3, 12, 1, true), Due.NONE);
        Due.is("never alike can not be", x.news(0xfffffc, 12, 1, false), Due.NONE);
    }

    private static void newsOutside() {
        Doc.promises(17, "OUTSIDE: m, l.");
        EvenDays x = new EvenDays();
        for (boolean alike : new boolean[] {true, false}) {
            for (int m : new int[] {LEAST, -1, 0, 13, 16, MOST}) {
                Due.is("m " + m, x.news(0, m, 0, alike), Due.OUTSIDE);
                Due.is("m " + m, x.news(0, m, 9, alike), Due.OUTSIDE);
            }
            for (int l : new int[] {LEAST, -1, 10, 12, MOST}) {
                Due.is("l " + l, x.news(0, 12, l, alike), Due.OUTSIDE);
                Due.is("l " + l, x.news(0, 1, l, alike), Due.OUTSIDE);
            }
            for (int l = 0; l <= 9; l++) {
                Due.is("l " + l, x.news(0x555555, 12, l, alike), alike ? l == 0 ? 1 : Due.NONE : 0);
                Due.is("l " + l, x.news(0, 1, l, alike), alike ? 0 : l == 0 ? 1 : Due.NONE);
            }
        }
    }

    // ---- anew

    private static void harms() {
        Doc.says("HARM of a person of VALLEY 0 with one of VALLEY 1 (0 .. 99; 0 at first, PAIRS there are)");
        EvenDays x = Due.told("treaty 6 1");
        for (int i = 0; i < 36; i++) Due.is("at first", x.harm(i / 6, i % 6, 99 - i), 0);
        for (int i = 0; i < 36; i++) Due.is("what it was", x.harm(i / 6, i % 6, i == 7 ? 0 : 99), 99 - i);
        for (int i = 0; i < 36; i++) Due.is("what it was", x.harm(i / 6, i % 6, 99), i == 7 ? 0 : 99);
        Due.is("the most of all", x.anew(-1), 594);
        Due.is("0", x.harm(5, 0, 0), 99);
        Due.is("one of them 0", x.anew(-1), 495);
    }

    private static void harmsStay() {
        Doc.says("(0 .. 99; 0 at first, PAIRS there are)");
        EvenDays x = Due.told("treaty 6 1");
        x.harm(5, 5, 55);
        x.harm(0, 5, 5);
        x.harm(0, 0, 1);
        Due.tell(x, "treaty 5 1");
        Due.is("not there", x.harm(5, 5, 1), Due.UNKNOWN);
        Due.is("not there", x.harm(0, 5, 1), Due.UNKNOWN);
        Due.is("not there", x.harm(5, 0, 1), Due.UNKNOWN);
        Due.is("of those there are", x.forced(0, 0), 1);
        Due.tell(x, "treaty 6 1");
        Due.is("there again", x.harm(0, 5, 5), 5);
        Due.is("there again", x.harm(5, 5, 55), 55);
    }

    private static void anewFirst() {
        Doc.says("all are paired one to one: the least HARM together; with whom the i-th is then (of several the first by these)");
        for (int n = 1; n <= 6; n++) {
            EvenDays x = Due.told("treaty " + n + " 1");
            for (int i = 0; i < n; i++) Due.is("all alike", x.anew(i), i);
            // the first and the last of either valley do not go together: the first such row is 1 0 2 3 ..
            x.harm(0, 0, 1);
            for (int i = 0; i < n && n > 1; i++) Due.is("not 0 with 0", x.anew(i), i == 0 ? 1 : i == 1 ? 0 : i);
            Due.is("least", x.anew(-1), n == 1 ? 1 : 0);
            x.harm(n - 1, n - 1, 1);
            int[] due = {0, 1, 2, 3, 4, 5};
            if (n == 2) due = new int[] {1, 0};
            if (n == 3) due = new int[] {1, 2, 0};
            if (n > 3) due = new int[] {1, 0, 2, 3, 4, 5};
            if (n > 3) due[n - 1] = n - 2;
            if (n > 3) due[n - 2] = n - 1;
            for (int i = 0; i < n; i++) Due.is("nor the last two", x.anew(i), due[i]);
        }
    }

    private static void anewOneToOne() {
        Doc.says("all are paired one to one: the least HARM together");
        // the dearest row and the cheapest one: the others are all dear but one each
        for (int turn = 0; turn < 6; turn++) {
            EvenDays x = Due.told("treaty 6 1");
            for (int i = 0; i < 36; i++) {
                boolean isCheap = i % 6 == (i / 6 * 5 + turn) % 6;
                x.harm(i / 6, i % 6, isCheap ? i / 6 : 99);
            }
            Due.is("least", x.anew(-1), 15);
            for (int i = 0; i < 6; i++) Due.is("with whom", x.anew(i), (i * 5 + turn) % 6);
        }
        // all like the same one best: one alone gets it
        EvenDays same = Due.told("treaty 3 1");
        int[][] harms = {{1, 50, 60}, {1, 40, 70}, {1, 20, 30}};
        for (int i = 0; i < 9; i++) same.harm(i / 3, i % 3, harms[i / 3][i % 3]);
        Due.is("least", same.anew(-1), 71);
        int[] due = {0, 1, 2};
        for (int i = 0; i < 3; i++) Due.is("with whom", same.anew(i), due[i]);
    }

    private static void forced() {
        Doc.says("what it is at least if one is paired with a told one");
        for (int n = 1; n <= 6; n++) {
            EvenDays x = Due.told("treaty " + n + " 1");
            x.harm(0, 0, 5);
            x.harm(n - 1, 0, 9);
            x.harm(0, n - 1, 7);
            if (n == 1) Due.is("one", x.forced(0, 0), 7);
            if (n == 1) continue;
            Due.is("0 with 0", x.forced(0, 0), 5);
            Due.is("the last with 0", x.forced(n - 1, 0), n == 2 ? 16 : 9);
            Due.is("0 with the last", x.forced(0, n - 1), n == 2 ? 16 : 7);
            Due.is("the last with the last", x.forced(n - 1, n - 1), n == 2 ? 5 : 0);
            Due.is("none is forced", x.anew(-1), n == 2 ? 5 : 0);
        }
    }

    private static void harmRefused() {
        Doc.promises(18, "HARM of one of VALLEY 0 with one of VALLEY 1 becomes v: what it was. UNKNOWN; OUTSIDE.");
        EvenDays x = new EvenDays();
        Due.is("0", x.harm(1, 1, 0), 0);
        Due.is("99", x.harm(1, 1, 99), 0);
        for (int v : new int[] {LEAST, -1, 100, MOST}) {
            Due.is("v " + v, x.harm(1, 1, v), Due.OUTSIDE);
            for (int wrong : new int[] {LEAST, -1, 2, MOST}) {
                Due.is("one goes ahead", x.harm(wrong, 1, v), Due.UNKNOWN);
                Due.is("other goes ahead", x.harm(1, wrong, v), Due.UNKNOWN);
            }
        }
        Due.is("as it was", x.harm(1, 1, 0), 99);
        for (int i = 0; i < 4; i++) Due.is("as they were", x.harm(i / 2, i % 2, 0), 0);
    }

    private static void anewRefused() {
        Doc.promises(19, "the least HARM (i NONE), or with whom the i-th is. UNKNOWN: i.");
        for (int n = 1; n <= 6; n++) {
            EvenDays x = Due.told("treaty " + n + " 1");
            for (int i = 0; i < n; i++) for (int j = 0; j < n; j++) x.harm(i, j, 9);
            Due.is("none", x.anew(Due.NONE), 9 * n);
            for (int i : new int[] {LEAST, -3, -2, n, n + 1, 6, MOST}) Due.is("i " + i, x.anew(i), Due.UNKNOWN);
            Due.is("the first", x.anew(0), 0);
            Due.is("the last", x.anew(n - 1), n - 1);
        }
    }

    private static void forcedRefused() {
        Doc.promises(20, "The least HARM together, if one is paired with a told one. UNKNOWN.");
        for (int n = 1; n <= 6; n++) {
            EvenDays x = Due.told("treaty " + n + " 1");
            for (int wrong : new int[] {LEAST, -2, -1, n, 6, MOST}) {
                Due.is("one " + wrong, x.forced(wrong, 0), Due.UNKNOWN);
                Due.is("other " + wrong, x.forced(n - 1, wrong), Due.UNKNOWN);
                Due.is("both " + wrong, x.forced(wrong, wrong), Due.UNKNOWN);
            }
        }
    }

    // ---- fours

    private static void likings() {
        Doc.says("LIKING in VALLEY 0 and 1 (0 .. 99 each; 0 at first), of i and j alike");
        EvenDays x = Due.told("treaty 6 1");
        int v = 99;
        for (int i = 0; i < 6; i++) {
            for (int j = i + 1; j < 6; j++) {
                Due.is("at first", x.like(0, i, j, v), 0);
                Due.is("at first", x.like(1, j, i, v - 50), 0);
                v--;
            }
        }
        v = 99;
        for (int i = 0; i < 6; i++) {
            for (int j = i + 1; j < 6; j++) {
                Due.is("of j and i", x.like(0, j, i, 0), v);
                Due.is("of i and j", x.like(1, i, j, 99), v - 50);
                Due.is("0", x.like(0, i, j, 99), 0);
                Due.is("99", x.like(1, j, i, 99), 99);
                v--;
            }
        }
        Due.is("the most of all", x.fours(0), 297);
    }

    private static void likingOfBoth() {
        Doc.says("the greatest sum of the lesser LIKING of the two VALLEYS, for each such");
        EvenDays x = new EvenDays();
        x.like(0, 0, 1, 99);
        Due.is("0 in valley 1", x.fours(0), 0);
        x.like(1, 0, 1, 98);
        Due.is("the lesser is of valley 1", x.fours(0), 98);
        x.like(0, 0, 1, 97);
        Due.is("the lesser is of valley 0", x.fours(0), 97);
        x.like(1, 0, 1, 97);
        Due.is("alike", x.fours(0), 97);
        x.like(0, 1, 0, 0);
        Due.is("0 in valley 0", x.fours(0), 0);
        Due.is("they marry even so", x.fours(1), 1);
    }

    private static void foursOfAll() {
        Doc.says("of all ways to marry some of the PAIRS (each once at most)");
        // each two of six alone, and any three that leave none
        for (int i = 0; i < 6; i++) {
            for (int j = i + 1; j < 6; j++) {
                EvenDays x = Due.told("treaty 6 1");
                x.like(0, i, j, 9);
                x.like(1, i, j, 8);
                Due.is("of " + i + " and " + j, x.fours(0), 8);
                Due.is("the others marry too", x.fours(1), 3);
            }
        }
        EvenDays star = Due.told("treaty 6 1");
        for (int j = 1; j < 6; j++) {
            star.like(0, 0, j, 10 + j);
            star.like(1, 0, j, 10 + j);
        }
        Due.is("one pair can not marry two", star.fours(0), 15);
        star.like(0, 5, 1, 7);
        star.like(1, 5, 1, 99);
        Due.is("14 and 7 are more", star.fours(0), 21);
        star.like(0, 5, 1, 1);
        Due.is("14 and 1 are no more than 15", star.fours(0), 15);
        Due.is("and three marry in either", star.fours(1), 3);
    }

    private static void foursAtTheMost() {
        Doc.says("how many marry at the most");
        for (int n = 1; n <= 6; n++) {
            EvenDays x = Due.told("treaty " + n + " 1");
            Due.is("all 0: as many as can", x.fours(1), n / 2);
            Due.is("all 0", x.fours(0), 0);
            for (int i = 0; i < n; i++) {
                for (int j = i + 1; j < n; j++) {
                    x.like(0, i, j, 1);
                    x.like(1, i, j, 1);
                }
            }
            Due.is("all 1: as many as can", x.fours(1), n / 2);
            Due.is("all 1", x.fours(0), n / 2);
        }
        // 0 1 2 3 in a row: the middle two are as good as both others, and better by one
        EvenDays row = Due.told("treaty 4 1");
        int[] v = {5, 10, 5};
        for (int i = 0; i < 3; i++) {
            row.like(0, i, i + 1, v[i]);
            row.like(1, i, i + 1, v[i]);
        }
        Due.is("10 either way", row.fours(0), 10);
        Due.is("two", row.fours(1), 2);
        EvenDays three = Due.told("treaty 3 1");
        three.like(0, 0, 2, 99);
        three.like(1, 0, 2, 99);
        Due.is("one of three is left", three.fours(1), 1);
    }

    private static void likeRefused() {
        Doc.promises(21, "LIKING of two PAIRS in a VALLEY becomes v: what it was. UNKNOWN; OUTSIDE: one and itself, v.");
        EvenDays x = new EvenDays();
        Due.is("99", x.like(0, 0, 1, 99), 0);
        for (int v : new int[] {LEAST, -1, 100, MOST}) {
            Due.is("v " + v, x.like(0, 0, 1, v), Due.OUTSIDE);
            Due.is("itself and v", x.like(0, 1, 1, v), Due.OUTSIDE);
            for (int wrong : new int[] {LEAST, -1, 2, MOST}) {
                Due.is("valley goes ahead", x.like(wrong, 0, 1, v), Due.UNKNOWN);
                Due.is("one goes ahead", x.like(0, wrong, 1, v), Due.UNKNOWN);
                Due.is("other goes ahead", x.like(0, 0, wrong, v), Due.UNKNOWN);
            }
        }
        for (int wrong : new int[] {LEAST, -1, 2, MOST}) {
            Due.is("unknown and itself", x.like(0, wrong, wrong, 1), Due.UNKNOWN);
            Due.is("valley and itself", x.like(wrong, 0, 0, 1), Due.UNKNOWN);
        }
        Due.is("0 and itself", x.like(0, 0, 0, 0), Due.OUTSIDE);
        Due.is("1 and itself", x.like(1, 1, 1, 99), Due.OUTSIDE);
        Due.is("as it was", x.like(0, 1, 0, 0), 99);
        Due.is("0", x.like(0, 0, 1, 1), 0);
        Due.is("the other valley's as it was", x.like(1, 0, 1, 1), 0);
    }

    private static void foursOutside() {
        Doc.promises(22, "FOURS: the greatest sum (what 0), how many FOURS there are at the most with it (1). OUTSIDE.");
        for (int n = 1; n <= 6; n++) {
            EvenDays x = Due.told("treaty " + n + " 1");
            Due.is("0", x.fours(0), 0);
            Due.is("1", x.fours(1), n / 2);
            for (int what : new int[] {LEAST, -1, 2, MOST}) Due.is("what " + what, x.fours(what), Due.OUTSIDE);
        }
    }

    // ---- records

    private static EvenDays recorded(String rows) {
        EvenDays x = new EvenDays();
        for (int i = 0; i < rows.length(); i++) Due.is("row", x.record(rows.charAt(i) == '1'), i + 1);
        return x;
    }

    private static void slipsAre(EvenDays x, int a, int b, int... due) {
        for (int what = 0; what < 3; what++) Due.is("slips " + a + " " + b + " " + what, x.slips(a, b, what), due[what]);
    }

    private static final String RIGHT = "10".repeat(20), TURNED = "01".repeat(20);

    private static void rows() {
        Doc.says("A RECORD has rows, 40 at most, DAY by DAY from 0 on: whether DOUBLES did alike (1) or not (0).");
        EvenDays x = new EvenDays();
        Due.is("none", x.count(5), 0);
        slipsAre(x, 1, 9, 0, 0, Due.NONE);
        slipsAre(recorded("1"), 1, 9, 0, 0, Due.NONE);
        slipsAre(recorded("0"), 1, 9, 9, 0, Due.NONE);
        slipsAre(recorded("10"), 1, 9, 0, 0, Due.NONE);
        slipsAre(recorded(RIGHT), 1, 9, 0, 0, Due.NONE);
        // each of the forty rows counts
        for (int wrong = 0; wrong < 40; wrong++) {
            StringBuilder rows = new StringBuilder(RIGHT);
            rows.setCharAt(wrong, wrong % 2 == 0 ? '0' : '1');
            slipsAre(recorded(rows.toString()), 9, 1, 1, 0, Due.NONE);
        }
    }

    private static void rowsFull() {
        Doc.promises(23, "A row of THE RECORD: how many. FULL.");
        EvenDays x = recorded(RIGHT);
        Due.is("a 41st", x.record(true), Due.FULL);
        Due.is("a 41st", x.record(false), Due.FULL);
        Due.is("rows", x.count(5), 40);
        slipsAre(x, 1, 9, 0, 0, Due.NONE);
        EvenDays almost = recorded(RIGHT.substring(0, 39));
        Due.is("rows", almost.count(5), 39);
        Due.is("a 40th", almost.record(true), 40);
        Due.is("a 41st", almost.record(false), Due.FULL);
        slipsAre(almost, 9, 1, 1, 0, Due.NONE);
    }

    private static void rowsRight() {
        Doc.says("b for each row that is not as the DAY then counts (EVEN: alike)");
        for (int b = 1; b <= 9; b++) {
            slipsAre(recorded("0"), 9, b, b, 0, Due.NONE);
            slipsAre(recorded("11"), 9, b, b, 0, Due.NONE);
            // rows 3 to 5 are wrong, or a slip on day 3
            boolean slips = 9 < 3 * b;
            slipsAre(recorded("101101"), 9, b, slips ? 9 : 3 * b, slips ? 1 : 0, slips ? 3 : Due.NONE);
        }
        for (int b = 1; b <= 9; b++) slipsAre(recorded(""), 1, b, 0, 0, Due.NONE);
    }

    private static void slipDays() {
        Doc.says("By a SLIP the DAYS from one on (1 or later) count as ODD in place of EVEN, and so on");
        for (int day = 1; day < 40; day++) {
            EvenDays x = recorded(RIGHT.substring(0, day) + TURNED.substring(day));
            slipsAre(x, 1, 9, 1, 1, day);
        }
        // from day 0 on none can slip: its row is paid for
        slipsAre(recorded(TURNED), 1, 9, 10, 1, 1);
        slipsAre(recorded(TURNED), 9, 9, 18, 1, 1);
        slipsAre(recorded("0"), 1, 9, 9, 0, Due.NONE);
        slipsAre(recorded("00"), 1, 9, 9, 0, Due.NONE);
        slipsAre(recorded("01"), 1, 9, 10, 1, 1);
    }

    private static void slipsTillTheNext() {
        Doc.says("till the next SLIP");
        for (int from = 1; from < 39; from++) {
            // turned for three days, or as many as there are, and then right again
            int till = Math.min(from + 3, 40);
            EvenDays x = recorded(RIGHT.substring(0, from) + TURNED.substring(from, till) + RIGHT.substring(till));
            slipsAre(x, 1, 9, till < 40 ? 2 : 1, till < 40 ? 2 : 1, from);
        }
        // a slip on each day: all count as even
        slipsAre(recorded("1".repeat(40)), 1, 9, 39, 39, 1);
        slipsAre(recorded("0" + "1".repeat(39)), 1, 9, 48, 39, 1);
        slipsAre(recorded("1".repeat(40)), 9, 1, 20, 0, Due.NONE);
    }

    private static void costs() {
        Doc.says("What it costs: a for each SLIP, b for each row");
        for (int a = 1; a <= 9; a++) {
            for (int b = 1; b <= 9; b++) {
                // a slip, or three rows
                boolean slips = a < 3 * b;
                slipsAre(recorded("10" + "010"), a, b, slips ? a : 3 * b, slips ? 1 : 0, slips ? 2 : Due.NONE);
            }
        }
        slipsAre(recorded("0".repeat(40)), 9, 9, 180, 0, Due.NONE);
    }

    private static void fewest() {
        Doc.says("the least; by how few SLIPS");
        // one row between may be paid for, or two slips: as dear, if b is twice a
        for (int a = 1; a <= 4; a++) {
            EvenDays x = recorded("1011101");
            slipsAre(x, a, 2 * a, 2 * a, 0, Due.NONE);
            slipsAre(x, a, 2 * a + 1, 2 * a, 2, 3);
            if (a > 1) slipsAre(x, a, 2 * a - 1, 2 * a - 1, 0, Due.NONE);
        }
        slipsAre(recorded("1".repeat(40)), 1, 2, 39, 1, 39);
        slipsAre(recorded("1".repeat(40)), 1, 3, 39, 39, 1);
        slipsAre(recorded("1011"), 3, 3, 3, 0, Due.NONE);
        slipsAre(recorded("1011"), 2, 3, 2, 1, 3);
    }

    private static void latest() {
        Doc.says("the first DAY that slips then (the latest of several ways to have as few; none: no SLIP)");
        // a slip on day 2 leaves the row of day 3, one on day 4 that of day 2
        slipsAre(recorded("100001010"), 3, 3, 6, 1, 4);
        slipsAre(recorded("100001010"), 3, 9, 9, 3, 2);
        // the same on days 1 and 3, and on days 35 and 37
        slipsAre(recorded("1111010"), 3, 3, 6, 1, 3);
        slipsAre(recorded("1111010"), 3, 9, 9, 3, 1);
        EvenDays late = recorded(RIGHT.substring(0, 35) + TURNED.charAt(35) + RIGHT.charAt(36) + TURNED.substring(37));
        slipsAre(late, 3, 3, 6, 1, 37);
        slipsAre(late, 3, 9, 9, 3, 35);
        slipsAre(recorded("1101"), 2, 2, 2, 1, 1);
        slipsAre(recorded(RIGHT), 1, 1, 0, 0, Due.NONE);
    }

    private static void slipsOutside() {
        Doc.promises(25, "the least cost (what 0), how few SLIPS (1), the first DAY that slips (2; NONE). OUTSIDE: a, b (1 .. 9 each), what.");
        EvenDays x = recorded("01");
        for (int wrong : new int[] {LEAST, -1, 0, 10, MOST}) {
            for (int what = 0; what < 3; what++) {
                Due.is("a " + wrong, x.slips(wrong, 1, what), Due.OUTSIDE);
                Due.is("b " + wrong, x.slips(9, wrong, what), Due.OUTSIDE);
            }
        }
        for (int wrong : new int[] {LEAST, -1, 3, MOST}) {
            Due.is("what " + wrong, x.slips(1, 1, wrong), Due.OUTSIDE);
            Due.is("all wrong", x.slips(0, 10, wrong), Due.OUTSIDE);
        }
        // a slip on day 1 is as dear as its row, or cheaper
        slipsAre(x, 1, 1, 2, 0, Due.NONE);
        slipsAre(x, 1, 2, 3, 1, 1);
        slipsAre(x, 1, 9, 10, 1, 1);
        slipsAre(x, 9, 1, 2, 0, Due.NONE);
        slipsAre(x, 9, 9, 18, 0, Due.NONE);
    }

    private static void burn() {
        Doc.promises(24, "THE RECORD is empty: how many rows it had.");
        EvenDays x = new EvenDays();
        Due.is("empty", x.burn(), 0);
        x.record(false);
        Due.is("one", x.burn(), 1);
        Due.is("empty", x.burn(), 0);
        for (int i = 0; i < 41; i++) x.record(false);
        slipsAre(x, 9, 9, 180, 0, Due.NONE);
        Due.is("full", x.burn(), 40);
        Due.is("rows", x.count(5), 0);
        slipsAre(x, 1, 9, 0, 0, Due.NONE);
        Due.is("from day 0 on", x.record(true), 1);
        slipsAre(x, 1, 9, 0, 0, Due.NONE);
        for (int i = 1; i < 40; i++) x.record(i % 2 == 0);
        slipsAre(x, 1, 9, 0, 0, Due.NONE);
        Due.is("full again", x.record(true), Due.FULL);
        for (int length = 39; length > 0; length--) {
            // what was reckoned of the longer one ahead is nothing to the shorter one
            EvenDays y = recorded("0".repeat(40));
            y.slips(9, 9, 0);
            y.burn();
            for (int i = 0; i < length; i++) y.record(i % 2 == 0);
            slipsAre(y, 1, 9, 0, 0, Due.NONE);
            y.burn();
            for (int i = 0; i < length; i++) y.record(i == 0 || i % 2 != 0);
            slipsAre(y, 1, 9, length == 1 ? 0 : 1, length == 1 ? 0 : 1, length == 1 ? Due.NONE : 1);
        }
    }

    /** What the model finds by trying every set of SLIPS. */
    private static void everyShortRecord() {
        Doc.promises(25, "the least cost (what 0), how few SLIPS (1), the first DAY that slips (2; NONE).");
        for (int length = 0; length <= 7; length++) {
            for (int rows = 0; rows < 1 << length; rows++) {
                Model m = new Model();
                StringBuilder text = new StringBuilder();
                for (int i = 0; i < length; i++) {
                    m.record.add((rows >> i & 1) != 0);
                    text.append(rows >> i & 1);
                }
                EvenDays x = recorded(text.toString());
                for (int a = 1; a <= 9; a++) {
                    for (int b = 1; b <= 9; b++) slipsAre(x, a, b, Arrays.copyOf(m.slips(a, b), 3));
                }
            }
        }
    }
}
