/** Paragraph 1 and promises 1 to 7 and 28, sentence by sentence: what is just inside, and just outside. */
public final class TextBoundsTest {
    private static final int LEAST = Integer.MIN_VALUE, MOST = Integer.MAX_VALUE;
    private static final String[] FORMS = {
        "treaty 2 2", "work 1 2 3 4 5", "kind 1 2", "meant 1 1 1 1 3", "eats 7", "fine 8"};

    public static void main(String[] args) {
        valleys();
        valleysOfTexts();
        pairs();
        pairsOfTexts();
        hours();
        hoursOfTexts();
        works();
        classes();
        breads();
        worths();
        worksAtFirst();
        rest();
        kinds();
        eats();
        fine();
        evenAndOdd();
        mostBytes();
        fullText();
        emptyText();
        mostLines();
        aLineForEachForm();
        withoutPoints();
        treatyLine();
        breadThatIsNone();
        behindTheLinesAhead();
        meantWorks();
        smallLetters();
        digits();
        blanks();
        noBlankIsNeeded();
        blankBetweenNumbers();
        elseStays();
        firstToken();
        tokens();
        numbersOutOfBounds();
        meantThatCanNotBeDone();
        tooSoon();
        inTheirOrder();
        notDoneAnyMore();
        behindLines();
        harmLikingRecordStay();
        newObject();
        write();
        writeBytes();
        writeOutside();
        writeFull();
        erase();
        fault();
        treaty();
        treatyNot();
        worksAsked();
        workAsked();
        meantAsked();
        counts();
        countsOfKinds();
        Doc.end("TextBoundsTest");
    }

    // ---- numbers

    private static void valleys() {
        Doc.says("VALLEYS are 0 and 1.");
        for (int valley : new int[] {LEAST, -1, 0, 1, 2, MOST}) {
            boolean is = valley == 0 || valley == 1;
            EvenDays x = new EvenDays();
            String of = " of valley " + valley;
            Due.is("meant" + of, x.meant(0, valley, 0, 0), is ? 5 : Due.UNKNOWN);
            Due.is("done" + of, x.done(valley, 0, 0, 3), is ? 1 : Due.UNKNOWN);
            Due.is("person" + of, x.person(valley, 0, 10), is ? 3 : Due.UNKNOWN);
            Due.is("ill" + of, x.ill(valley, 1, true), is ? 0 : Due.UNKNOWN);
            Due.is("bread" + of, x.bread(valley), is ? 100000 : Due.UNKNOWN);
            Due.is("planned" + of, x.planned(0, 0, valley, 1, 1), is ? 0 : Due.UNKNOWN);
            Due.is("like" + of, x.like(valley, 0, 1, 9), is ? 0 : Due.UNKNOWN);
        }
    }

    private static void valleysOfTexts() {
        Doc.says("VALLEYS are 0 and 1.");
        Doc.fault("meant 0 0 0 0 5");
        Doc.fault("meant 0 1 0 0 5");
        Doc.fault("meant 0 ^2 0 0 5");
        Doc.fault("meant 0 ^-1 0 0 5");
    }

    private static void pairs() {
        Doc.says("PAIRS are 0 .. n less 1 (n 1 .. 6; 2 at first)");
        pairsAre(new EvenDays(), 2);
        for (int n = 1; n <= 6; n++) {
            EvenDays x = Due.told("treaty " + n + " 1");
            Due.is("how many", x.count(0), n);
            pairsAre(x, n);
        }
    }

    private static void pairsAre(EvenDays x, int n) {
        for (int pair : new int[] {LEAST, -1, 0, n - 1, n, n + 1, MOST}) {
            boolean is = pair >= 0 && pair < n;
            String of = " of pair " + pair + " of " + n;
            Due.is("meant" + of, x.meant(0, 1, pair, 0), is ? 5 : Due.UNKNOWN);
            Due.is("done" + of, x.done(1, pair, 0, 5), is ? 1 : Due.UNKNOWN);
            Due.is("ill" + of, x.ill(1, pair, false), is ? 0 : Due.UNKNOWN);
            Due.is("person" + of, x.person(1, pair, 10), is ? 5 : Due.UNKNOWN);
            Due.is("breaches" + of, x.breaches(pair), is ? 0 : Due.UNKNOWN);
            Due.is("as" + of, x.as(pair, 3), is ? 0 : Due.UNKNOWN);
            Due.is("planned" + of, x.planned(0, 0, 1, pair, 0), is ? 0 : Due.UNKNOWN);
            Due.is("harm of one," + of, x.harm(pair, n - 1, 0), is ? 0 : Due.UNKNOWN);
            Due.is("harm of other," + of, x.harm(n - 1, pair, 0), is ? 0 : Due.UNKNOWN);
            if (pair != -1) Due.is("anew" + of, x.anew(pair), is ? pair : Due.UNKNOWN);
            Due.is("forced of one," + of, x.forced(pair, 0), is ? 0 : Due.UNKNOWN);
            Due.is("forced of other," + of, x.forced(0, pair), is ? 0 : Due.UNKNOWN);
            int alone = pair == 0 ? Due.OUTSIDE : 0;
            Due.is("like of one," + of, x.like(1, pair, 0, 0), is ? alone : Due.UNKNOWN);
            Due.is("like of other," + of, x.like(1, 0, pair, 0), is ? alone : Due.UNKNOWN);
        }
    }

    private static void pairsOfTexts() {
        Doc.says("PAIRS are 0 .. n less 1 (n 1 .. 6; 2 at first)");
        Doc.fault("treaty 1 1");
        Doc.fault("treaty 6 1");
        Doc.fault("treaty ^0 1");
        Doc.fault("treaty ^7 1");
        Doc.fault("treaty ^-1 1");
        Doc.fault("treaty 06^");
        Doc.fault("treaty 06 1");
        for (int n = 1; n <= 6; n++) {
            Doc.fault("treaty " + n + " 1;kind " + (n - 1) + " 0;meant 0 0 " + (n - 1) + " 0 5");
            Doc.fault("treaty " + n + " 1;kind ^" + n + " 0");
            Doc.fault("treaty " + n + " 1;meant 0 0 ^" + n + " 0 5");
        }
        Doc.fault("kind 1 0");
        Doc.fault("kind ^2 0");
        Doc.fault("kind ^-1 0");
        Doc.fault("meant 0 0 ^2 0 5");
        Doc.fault("meant 0 0 ^-1 0 5");
    }

    private static void hours() {
        Doc.says("A DAY has h HOURS (1 .. 4; 2 at first).");
        hoursAre(new EvenDays(), 2);
        for (int h = 1; h <= 4; h++) {
            EvenDays x = Due.told("treaty 1 " + h);
            Due.is("how many", x.count(1), h);
            hoursAre(x, h);
        }
    }

    private static void hoursAre(EvenDays x, int h) {
        for (int hour : new int[] {LEAST, -1, 0, h - 1, h, h + 1, MOST}) {
            boolean is = hour >= 0 && hour < h;
            String of = " of hour " + hour + " of " + h;
            Due.is("meant" + of, x.meant(1, 0, 0, hour), is ? 5 : Due.UNKNOWN);
            Due.is("done" + of, x.done(0, 0, hour, 4), is ? 1 : Due.UNKNOWN);
            Due.is("planned" + of, x.planned(0, 0, 0, 0, hour), is ? 0 : Due.UNKNOWN);
            Due.is("person" + of, x.person(0, 0, 10 + hour), is ? 4 : Due.OUTSIDE);
        }
        x.done(0, 0, 0, 4);
        x.done(0, 0, h - 1, 4);
        Due.is("breaches of " + h, x.breaches(0), 1 | 1 << h - 1);
    }

    private static void hoursOfTexts() {
        Doc.says("A DAY has h HOURS (1 .. 4; 2 at first).");
        Doc.fault("treaty 1 1");
        Doc.fault("treaty 1 4");
        Doc.fault("treaty 1 ^0");
        Doc.fault("treaty 1 ^5");
        Doc.fault("treaty 1 ^-1");
        for (int h = 1; h <= 4; h++) {
            Doc.fault("treaty 1 " + h + ";meant 0 0 0 " + (h - 1) + " 5");
            Doc.fault("treaty 1 " + h + ";meant 0 0 0 ^" + h + " 5");
        }
        Doc.fault("meant 0 0 0 1 5");
        Doc.fault("meant 0 0 0 ^2 5");
        Doc.fault("meant 0 0 0 ^-1 5");
    }

    private static void works() {
        Doc.says("WORKS are 0 .. 4: CLASS 0 .. 3");
        EvenDays x = new EvenDays();
        Doc.fault("work 0 0 0 0 0");
        Doc.fault("work 4 0 0 0 0");
        Doc.fault("work ^5 0 0 0 0");
        Doc.fault("work ^-1 0 0 0 0");
        for (int work : new int[] {LEAST, -1, 0, 4, 5, 6, MOST}) {
            boolean is = work >= 0 && work <= 5;
            Due.is("work " + work, x.work(work, 1), is ? 0 : Due.UNKNOWN);
            Due.is("done " + work, x.done(0, 0, 0, work), is ? 1 : Due.UNKNOWN);
        }
        Due.tell(x, "work 4 3 20 19 18");
        int[] due = {3, 20, 19, 18};
        for (int what = 0; what < 4; what++) {
            Due.is("the last work", x.work(4, what), due[what]);
            Due.is("the one ahead", x.work(3, what), 0);
        }
        Due.tell(x, "work 0 1 2 3 4");
        for (int what = 0; what < 4; what++) {
            Due.is("the first work", x.work(0, what), what + 1);
            Due.is("the last is as it was", x.work(4, what), due[what]);
            Due.is("the one behind the first", x.work(1, what), 0);
        }
    }

    private static void classes() {
        Doc.says("WORKS are 0 .. 4: CLASS 0 .. 3");
        Doc.fault("work 0 ^4 0 0 0");
        Doc.fault("work 0 ^-1 0 0 0");
        Doc.fault("work 0 ^- 0 0 0");
        EvenDays x = Due.told("work 0 0 0 0 0;work 1 3 0 0 0");
        Due.is("the least", x.work(0, 0), 0);
        Due.is("the most", x.work(1, 0), 3);
    }

    private static void breads() {
        Doc.says("in each VALLEY BREAD (0 .. 20) or it can not be done there");
        Doc.fault("work 0 0 ^21 0 0");
        Doc.fault("work 0 0 0 ^21 0");
        Doc.fault("work 0 0 20 20 0");
        EvenDays x = Due.told("work 0 0 0 20 0;work 1 0 20 0 0;work 2 0 - 20 0;work 3 0 20 - 0;work 4 0 - - 0");
        int[][] due = {{0, 20}, {20, 0}, {Due.NONE, 20}, {20, Due.NONE}, {Due.NONE, Due.NONE}};
        for (int work = 0; work < 5; work++) {
            for (int valley = 0; valley < 2; valley++) {
                int bread = due[work][valley];
                Due.is("bread", x.work(work, 1 + valley), bread);
                Due.is("done", x.done(valley, 1, 0, work), bread == Due.NONE ? Due.NOT : 1);
            }
        }
    }

    private static void worths() {
        Doc.says("WORTH 0 .. 20 (at first CLASS 0, BREAD 0 in both, WORTH 0)");
        Doc.fault("work 0 0 0 0 ^21");
        Doc.fault("work 0 0 0 0 ^-1");
        Doc.fault("work 0 0 0 0 ^-");
        EvenDays x = Due.told("work 0 0 0 0 20;work 1 0 0 0 20;work 1 0 0 0 0");
        Due.is("the most", x.work(0, 3), 20);
        Due.is("the least", x.work(1, 3), 0);
    }

    private static void worksAtFirst() {
        Doc.says("WORTH 0 .. 20 (at first CLASS 0, BREAD 0 in both, WORTH 0)");
        EvenDays x = new EvenDays();
        for (int i = 0; i < 20; i++) Due.is("work " + i / 4, x.work(i / 4, i % 4), 0);
    }

    private static void rest() {
        Doc.says("5 is to REST (CLASS 4, in both, BREAD 0, WORTH 0)");
        EvenDays x = Due.told("work 4 3 9 9 9");
        int[] due = {4, 0, 0, 0};
        for (int what = 0; what < 4; what++) Due.is("rest", x.work(5, what), due[what]);
        Due.is("in valley 0", x.done(0, 0, 0, 5), 1);
        Due.is("in valley 1", x.done(1, 0, 0, 5), 1);
        Due.is("alike", x.breaches(0), 0);
        Due.is("class 3", x.done(1, 0, 0, 4), 1);
        Due.is("is unlike class 4", x.breaches(0), 1);
    }

    private static void kinds() {
        Doc.says("0 PLAIN (as at first), 1 LAME, 2 CHILD, 3 RELEASED");
        EvenDays x = new EvenDays();
        Due.is("at first", x.count(7), 0);
        Due.is("at first", x.count(8), 0);
        Doc.fault("kind 0 ^4");
        Doc.fault("kind 0 ^-1");
        for (int kind = 0; kind < 4; kind++) {
            Due.tell(x, "kind 1 " + kind);
            Due.is("kind", x.count(8), kind);
            Due.is("the other", x.count(7), 0);
            for (int asked = 3; asked < 7; asked++) Due.is("as", x.as(1, asked), asked == kind + 3 || asked == 3 && kind == 1 ? 0 : Due.NOT);
        }
    }

    private static void eats() {
        Doc.says("EATS 0 .. 20 (0 at first), FINE 0 .. 99 (1)");
        EvenDays x = new EvenDays();
        Due.is("at first", x.count(2), 0);
        x.days(1);
        Due.is("nothing is eaten", x.bread(0), 100000);
        Due.tell(x, "eats 20");
        Due.is("the most", x.count(2), 20);
        Due.tell(x, "eats 0");
        Due.is("the least", x.count(2), 0);
        Doc.fault("eats ^21");
        Doc.fault("eats ^-1");
        Doc.fault("eats ^-");
    }

    private static void fine() {
        Doc.says("EATS 0 .. 20 (0 at first), FINE 0 .. 99 (1)");
        EvenDays x = new EvenDays();
        Due.is("at first", x.count(3), 1);
        x.days(2);
        Due.is("two faults", x.person(0, 0, 1), 2);
        Due.tell(x, "fine 99");
        Due.is("the most", x.count(3), 99);
        Due.tell(x, "fine 0");
        Due.is("the least", x.count(3), 0);
        Doc.fault("fine ^100");
        Doc.fault("fine ^-1");
        Doc.fault("fine ^-");
    }

    private static void evenAndOdd() {
        Doc.says("MEANT is, for EVEN (0) and ODD DAYS (1), for each person, for each HOUR a WORK (REST at first).");
        EvenDays x = new EvenDays();
        for (int i = 0; i < 16; i++) Due.is("at first", x.meant(i & 1, i >> 1 & 1, i >> 2 & 1, i >> 3), 5);
        Doc.fault("meant ^2 0 0 0 0");
        Doc.fault("meant ^-1 0 0 0 0");
        Due.tell(x, "meant 0 0 0 0 1;meant 1 1 1 1 2");
        for (int i = 0; i < 16; i++) {
            Due.is("then", x.meant(i & 1, i >> 1 & 1, i >> 2 & 1, i >> 3), i == 0 ? 1 : i == 15 ? 2 : 5);
        }
        Due.is("on day 0", x.person(0, 0, 10), 1);
        Due.is("on day 0", x.person(1, 1, 11), 5);
        x.days(1);
        Due.is("on day 1", x.person(0, 0, 10), 5);
        Due.is("on day 1", x.person(1, 1, 11), 2);
    }

    // ---- the text

    private static String blanks(int n) {
        return " ".repeat(n);
    }

    private static void mostBytes() {
        Doc.says("THE TEXT is a row of bytes, 200 at most");
        EvenDays x = new EvenDays();
        Due.is("199 bytes", Due.write(x, blanks(199)), 199);
        Due.is("200 bytes", x.write('7', 1), 200);
        Due.is("201 bytes", x.write('7', 1), Due.FULL);
        Due.is("still 200", x.count(6), 200);
    }

    private static void fullText() {
        Doc.says("THE TEXT is a row of bytes, 200 at most");
        Due.is("the last byte is read", Due.told(blanks(194) + "fine 8").count(3), 8);
        Due.is("the last two are read", Due.told(blanks(193) + "fine 98").count(3), 98);
        Due.is("blanks to the last one", Due.told("fine 97" + blanks(193)).count(3), 97);
        Doc.fault(blanks(194) + "fine ^.");
        Doc.fault(blanks(193) + "fine 9^.");
        Doc.fault(blanks(195) + "fine ^");
        Doc.fault("fine 9" + blanks(193) + ";^");
        Doc.fault("fine ^" + "0".repeat(195));
        Doc.fault("^" + "z".repeat(200));
        Doc.fault("^" + "9".repeat(200));
        Doc.fault("^" + ";".repeat(200));
        Doc.fault("^" + "\u00ff".repeat(200));
        EvenDays x = new EvenDays();
        StringBuilder ten = new StringBuilder();
        for (int i = 0; i < 9; i++) ten.append("work 4 3 20 20 1").append(i).append("  ;");
        ten.append("work 4 3 - 20 9");
        ten.insert(0, blanks(200 - ten.length()));
        Due.tell(x, ten.toString());
        Due.is("the tenth line", x.work(4, 3), 9);
    }

    private static void emptyText() {
        Doc.says("an empty TEXT ends too soon");
        EvenDays x = new EvenDays();
        Due.is("fault", x.fault(), 0);
        Due.is("treaty", x.treaty(), Due.NOT);
        Doc.fault(x, " ^");
        Doc.fault(x, blanks(200) + "^");
        Due.write(x, "fine 7");
        x.erase();
        Due.is("erased: fault", x.fault(), 0);
        Due.is("erased: treaty", x.treaty(), Due.NOT);
        Due.tell(x, "fine 7");
        Due.is("behind a treaty: fault", x.fault(), 0);
        Due.is("behind a treaty: treaty", x.treaty(), Due.NOT);
        Due.is("and nothing came of it", x.count(3), 7);
    }

    private static void mostLines() {
        Doc.says("LINES with ; (59) between, 1 to 10 (an empty TEXT ends too soon; behind the 10th no ; can stand)");
        for (int lines = 1; lines <= 10; lines++) {
            String text = "eats 3" + ";eats 4".repeat(lines - 1);
            Due.is(lines + " lines", Due.told(text).count(2), lines == 1 ? 3 : 4);
            Doc.fault(text + (lines < 10 ? ";^" : "^;"));
            Doc.fault(text + (lines < 10 ? " ; ^" : " ^; "));
            Doc.fault(text + (lines < 10 ? ";eats 5" : "^;eats 5"));
            Doc.fault(text + (lines < 10 ? ";eats ^21" : "^;eats 21"));
        }
        String nine = "eats 4;".repeat(9);
        Doc.fault(nine + "eats ^21;");
        Doc.fault(nine + "^eat 2;");
        Doc.fault(nine + "eats 2 ^2;");
        Doc.fault("^;eats 4");
        Doc.fault(" ^;");
        Doc.fault("eats 4;^;eats 4");
        Doc.fault("eats 4^:eats 4");
        Doc.fault("eats 4^<eats 4");
        Doc.fault("eats 4^,eats 4");
    }

    private static void aLineForEachForm() {
        Doc.says("each is one of: treaty N H. work W C P Q S. kind I K. meant E V I H W. eats N. fine N.");
        for (String form : FORMS) {
            Doc.fault(form);
            Doc.fault(form + "^.");
            Doc.fault(form + " ^0");
            Doc.fault(form + " ^fine");
            String[] tokens = form.split(" ");
            Doc.fault("^" + tokens[0] + "s" + form.substring(tokens[0].length()));
            Doc.fault("^" + form.substring(1));
            Doc.fault("^z" + form);
            Doc.fault("^" + tokens[0].substring(0, tokens[0].length() - 1) + " 1 1");
            for (int i = 0; i < tokens[0].length(); i++) {
                Doc.fault("^" + form.substring(0, i) + "x" + form.substring(i + 1));
                Doc.fault("^" + form.substring(0, i) + form.substring(i, i + 1).toUpperCase() + form.substring(i + 1));
            }
        }
    }

    private static void withoutPoints() {
        Doc.says("(As written here, without points;");
        for (String form : FORMS) {
            Doc.fault(form + "^.");
            Doc.fault(form + " ^.");
            Doc.fault(form + "^.;" + form);
            Doc.fault("^." + form);
        }
    }

    private static void treatyLine() {
        Doc.says("treaty: N PAIRS, H HOURS, all PLAIN, all MEANT is REST");
        EvenDays x = Due.told("treaty 6 4;kind 0 1;kind 5 3;meant 0 0 0 0 1;meant 1 1 5 3 2");
        Due.is("the first kind", x.count(7), 1);
        Due.is("the last kind", x.count(12), 3);
        Due.is("the first meant", x.meant(0, 0, 0, 0), 1);
        Due.is("the last meant", x.meant(1, 1, 5, 3), 2);
        Due.tell(x, "treaty 6 4");
        for (int pair = 0; pair < 6; pair++) Due.is("plain", x.count(7 + pair), 0);
        for (int i = 0; i < 96; i++) Due.is("rest", x.meant(i & 1, i >> 1 & 1, (i >> 2) % 6, (i >> 2) / 6), 5);
        Due.tell(x, "kind 5 3;meant 1 1 5 3 2");
        Due.tell(x, "treaty 1 1");
        Due.is("one pair", x.count(0), 1);
        Due.is("one hour", x.count(1), 1);
        Due.tell(x, "treaty 6 4");
        Due.is("plain, when it is there again", x.count(12), 0);
        Due.is("rest, when it is there again", x.meant(1, 1, 5, 3), 5);
    }

    private static void breadThatIsNone() {
        Doc.says("P, Q: BREAD in VALLEY 0, 1, or - (45): it can not be done there");
        Doc.fault("work 0 0 - - 0");
        Doc.fault("work 0 0--0");
        Doc.fault("work 0 0 ^, 0 0");
        Doc.fault("work 0 0 ^. 0 0");
        Doc.fault("work 0 0 0 ^, 0");
        Doc.fault("work 0 0 0 ^. 0");
        Doc.fault("work 0 0 -1 5 ^3");
        Doc.fault("work 0 0 5 -1 ^3");
        Doc.fault("work 0 0 - - ^-");
        EvenDays x = Due.told("work 2 1 - 20 4");
        Due.is("not in valley 0", x.work(2, 1), Due.NONE);
        Due.is("20 in valley 1", x.work(2, 2), 20);
        Due.tell(x, "work 2 1 0 - 4");
        Due.is("0 in valley 0", x.work(2, 1), 0);
        Due.is("not in valley 1", x.work(2, 2), Due.NONE);
    }

    private static void behindTheLinesAhead() {
        Doc.says("I a PAIR, H an HOUR that there is behind the LINES ahead");
        EvenDays x = new EvenDays();
        Doc.fault(x, "treaty 3 3;kind 2 1;meant 1 1 2 2 0");
        Doc.fault(x, "treaty 1 3;kind ^1 1");
        Doc.fault(x, "treaty 1 3;meant 1 1 ^1 0 0");
        Doc.fault(x, "treaty 3 1;meant 1 1 2 ^1 0");
        Doc.fault(x, "kind 1 1;meant 0 0 1 1 0;treaty 1 1");
        Doc.fault(x, "kind ^2 1;treaty 3 3");
        Doc.fault(x, "meant 0 0 0 ^2 1;treaty 3 3");
        Doc.fault(x, "treaty 6 4;treaty 1 1;kind ^1 0");
        Doc.fault(x, "treaty 1 1;treaty 6 4;meant 0 0 5 3 0");
    }

    private static void meantWorks() {
        Doc.says("W 0 .. 4, MEANT 0 .. 5");
        Doc.fault("meant 0 0 0 0 ^6");
        Doc.fault("meant 0 0 0 0 ^-1");
        Doc.fault("work ^5 0 0 0 0");
        for (int work = 0; work < 6; work++) {
            EvenDays x = Due.told("meant 1 0 1 0 " + work);
            Due.is("meant", x.meant(1, 0, 1, 0), work);
        }
    }

    private static void smallLetters() {
        Doc.says("small letters a .. z");
        Doc.fault("^`eats 3");
        Doc.fault("^{eats 3");
        Doc.fault("^@eats 3");
        Doc.fault("^[eats 3");
        Doc.fault("^aeats 3");
        Doc.fault("^zeats 3");
        Doc.fault("^eatsa 3");
        Doc.fault("^eatsz 3");
        Doc.fault("eats^` 3");
        Doc.fault("eats^{ 3");
        Doc.fault("^Eats 3");
        Doc.fault("^eatS 3");
        Doc.fault("^EATS 3");
    }

    private static void digits() {
        Doc.says("numbers of 1 or 2 digits");
        Due.is("1 digit", Due.told("eats 9").count(2), 9);
        Due.is("2 digits", Due.told("eats 09").count(2), 9);
        Due.is("00", Due.told("fine 00").count(3), 0);
        Due.is("90", Due.told("fine 90").count(3), 90);
        Doc.fault("eats ^009");
        Doc.fault("eats ^000");
        Doc.fault("treaty 02 02;kind 01 01;meant 01 01 01 01 05;work 04 03 02 01 00;fine 01");
        Doc.fault("treaty ^002 02");
        Doc.fault("treaty 02 ^002");
        Doc.fault("kind ^001 1");
        Doc.fault("kind 1 ^001");
        Doc.fault("work ^001 1 1 1 1");
        Doc.fault("work 1 ^001 1 1 1");
        Doc.fault("work 1 1 ^001 1 1");
        Doc.fault("work 1 1 1 ^001 1");
        Doc.fault("work 1 1 1 1 ^001");
        Doc.fault("meant ^001 1 1 1 1");
        Doc.fault("meant 1 ^001 1 1 1");
        Doc.fault("meant 1 1 ^001 1 1");
        Doc.fault("meant 1 1 1 ^001 1");
        Doc.fault("meant 1 1 1 1 ^001");
        // more than an int or a long can hold, and what would be left of them
        Doc.fault("fine ^4294967297");
        Doc.fault("fine ^18446744073709551617");
        Doc.fault("eats ^/");
        Doc.fault("eats ^:");
        Doc.fault("eats 3^/");
        Doc.fault("eats 3^:");
    }

    private static void blanks() {
        Doc.says("blanks (32) may stand ahead of, between and behind TOKENS");
        for (String form : FORMS) {
            Doc.fault("   " + form.replace(" ", "   ") + "   ");
            Doc.fault("fine 1  ;  " + form);
        }
        Doc.fault("eats^\0373");
        Doc.fault("eats^!3");
        Doc.fault("eats ^\t3");
        Doc.fault("^\neats 3");
        Doc.fault("eats 3^\n");
        Doc.fault("eats 3^\0");
        Doc.fault("eats 3^\u00a0");
        Doc.fault("^e ats 3");
    }

    private static void noBlankIsNeeded() {
        Doc.says("none is needed but between two words, two numbers");
        EvenDays x = Due.told("treaty3 4;work4 3--5;kind2 1;meant0 0 2 3 5;eats7;fine8");
        Due.is("pairs", x.count(0), 3);
        Due.is("hours", x.count(1), 4);
        Due.is("class", x.work(4, 0), 3);
        Due.is("worth", x.work(4, 3), 5);
        Due.is("kind", x.count(9), 1);
        Due.is("eats", x.count(2), 7);
        Due.is("fine", x.count(3), 8);
        Doc.fault("work4 3-20 1");
        Doc.fault("work4 3 20-1");
        Doc.fault("fine7^fine 8");
        Doc.fault("^finefine 8");
    }

    private static void blankBetweenNumbers() {
        Doc.says("none is needed but between two words, two numbers");
        Doc.fault("treaty ^22");
        Doc.fault("treaty 2 2");
        Doc.fault("kind ^11");
        Doc.fault("work ^40 3 5 5 5");
        Doc.fault("work 1 2 3 ^45");
        Doc.fault("work 1 2 3 4^");
        Doc.fault("meant 1 1 1 ^15");
    }

    private static void elseStays() {
        Doc.says("all else that was told stays as it is");
        EvenDays x = Due.told("treaty 2 3;work 1 2 3 4 5;kind 1 3;meant 1 0 1 2 1;eats 6;fine 7");
        for (String line : new String[] {"work 0 1 1 1 1", "kind 0 1", "meant 0 0 0 0 0", "eats 6", "fine 7"}) {
            Due.tell(x, line);
            for (int what = 0; what < 4; what++) Due.is("work behind " + line, x.work(1, what), 2 + what);
            Due.is("kind behind " + line, x.count(8), 3);
            Due.is("meant behind " + line, x.meant(1, 0, 1, 2), 1);
            Due.is("eats behind " + line, x.count(2), 6);
            Due.is("fine behind " + line, x.count(3), 7);
            Due.is("hours behind " + line, x.count(1), 3);
        }
        Due.tell(x, "treaty 1 1");
        for (int what = 0; what < 4; what++) Due.is("work behind a treaty", x.work(1, what), 2 + what);
        Due.is("eats behind a treaty", x.count(2), 6);
        Due.is("fine behind a treaty", x.count(3), 7);
    }

    private static void firstToken() {
        Doc.says("A FAULT is at the first TOKEN (a row of small letters, a row of digits, any other byte) that cannot stand there");
        Doc.fault("treaty ^0 0;peace");
        Doc.fault("eats 1;fine ^x;y");
        Doc.fault("eats 1;^peace;war");
        Doc.fault("   ^peace");
        Doc.fault("eats    ^21 21");
        Doc.fault("meant ^2 2 2 2 6");
        Doc.fault("meant 1 ^2 2 2 6");
        Doc.fault("meant 1 1 ^2 2 6");
        Doc.fault("meant 1 1 1 ^2 6");
        Doc.fault("meant 1 1 1 1 ^6");
        // the TOKEN that can not stand at its place could stand at a later one
        Doc.fault("work ^9 99 99 99 99");
        Doc.fault("work ^5 - 21 0 0");
        Doc.fault("work 0 ^4 99 99 99");
        Doc.fault("work 0 ^- 99 99 99");
        Doc.fault("kind ^3 99");
        Doc.fault("meant ^5 99 99 99 99");
    }

    private static void tokens() {
        Doc.says("(a row of small letters, a row of digits, any other byte)");
        Doc.fault("fine1^a");
        Doc.fault("fine12^a1");
        Doc.fault("^finea1");
        Doc.fault("fine 1^..");
        Doc.fault("fine 1 ^-");
        Doc.fault("fine ^+1");
        Doc.fault("fine ^..1");
        for (int sign = 0; sign < 256; sign++) {
            EvenDays x = new EvenDays();
            String text = String.valueOf((char) sign);
            Due.faultIs(x, text + "eats 3", sign == ' ' ? Due.NONE : 0);
            Due.faultIs(x, "eats" + text + "3", placeBetween(sign));
            Due.faultIs(x, "eats 3" + text, placeBehind(sign));
        }
    }

    /** The FAULT of a text that has this byte between eats and 3. */
    private static int placeBetween(int sign) {
        if (sign == ' ' || sign == '0' || sign == '1') return Due.NONE;
        return sign >= 'a' && sign <= 'z' ? 0 : 4;
    }

    /** The FAULT of a text that has this byte behind eats 3. */
    private static int placeBehind(int sign) {
        if (sign == ' ') return Due.NONE;
        if (sign == ';') return 7;
        return sign >= '0' && sign <= '9' ? 5 : 6;
    }

    private static void numbersOutOfBounds() {
        Doc.says("(a number out of its bounds, of more digits, also;");
        String[] inside = {"treaty 1 1", "treaty 6 4", "work 0 0 0 0 0", "work 4 3 20 20 20", "kind 0 0", "kind 1 3",
            "meant 0 0 0 0 0", "meant 1 1 1 1 5", "eats 0", "eats 20", "fine 0", "fine 99"};
        for (String text : inside) Doc.fault(text);
        int[][] most = {{6, 4}, {4, 3, 20, 20, 20}, {1, 3}, {1, 1, 1, 1, 5}, {20}, {99}};
        for (int form = 0; form < FORMS.length; form++) {
            String word = FORMS[form].split(" ")[0];
            for (int wrong = 0; wrong < most[form].length; wrong++) {
                StringBuilder text = new StringBuilder(word);
                for (int i = 0; i < most[form].length; i++) text.append(i == wrong ? " ^" : " ").append(most[form][i] + (i == wrong ? 1 : 0));
                Doc.fault(text.toString());
                Doc.fault(text.toString().replaceAll("\\^\\d+", "^099"));
                Doc.fault(text.toString().replaceAll("\\^\\d+", "^x"));
            }
        }
    }

    private static void meantThatCanNotBeDone() {
        Doc.says("MEANT a WORK that can not be done in that VALLEY behind the LINES ahead: at it");
        EvenDays x = Due.told("work 2 0 - 1 0;work 3 0 1 - 0");
        Doc.fault(x, "meant 0 0 0 0 ^2");
        Doc.fault(x, "meant 1 0 1 1  ^02 ;peace");
        Doc.fault(x, "meant 0 1 0 0 2");
        Doc.fault(x, "meant 0 0 0 0 3");
        Doc.fault(x, "meant 0 1 0 0 ^3");
        Doc.fault(x, "work 2 0 0 - 0;meant 0 0 0 0 2");
        Doc.fault(x, "work 2 0 0 - 0;meant 0 1 0 0 ^2");
        Doc.fault(x, "meant 0 1 0 0 2;work 2 0 - - 0");
        Doc.fault(x, "work 4 0 - - 0;meant 0 1 0 0 ^4");
        Doc.fault(x, "work 4 0 - - 0;work 4 0 - 0 0;meant 0 1 0 0 4");
        Doc.fault(x, "treaty 1 1;meant 0 0 0 0 ^2");
        Doc.fault(x, "meant 0 0 0 0 5;meant 0 1 0 0 5");
    }

    private static void tooSoon() {
        Doc.says("or at the end, if it comes too soon");
        for (String form : FORMS) {
            String[] tokens = form.split(" ");
            StringBuilder text = new StringBuilder();
            for (int i = 0; i < tokens.length - 1; i++) {
                text.append(i > 0 ? " " : "").append(tokens[i]);
                Doc.fault(text + "^");
                Doc.fault(text + " ^");
                Doc.fault(text + "     ^");
                Doc.fault("eats 1;" + text + "^");
                Doc.fault(text + "^;");
                Doc.fault(text + " ^;" + form);
                Doc.fault(text + " ^fine");
            }
            Doc.fault(form + ";^");
            Doc.fault(form + ";  ^");
        }
    }

    private static void inTheirOrder() {
        Doc.says("LINES are done in their order.");
        EvenDays x = Due.told("fine 3;eats 4;fine 5;eats 6;work 0 1 1 1 1;work 0 2 2 2 2");
        Due.is("fine", x.count(3), 5);
        Due.is("eats", x.count(2), 6);
        Due.is("work", x.work(0, 0), 2);
        Due.tell(x, "kind 0 2;meant 0 0 0 0 1;treaty 2 2;kind 1 3");
        Due.is("a treaty behind", x.count(7), 0);
        Due.is("a treaty behind", x.meant(0, 0, 0, 0), 5);
        Due.is("behind the treaty", x.count(8), 3);
        Due.tell(x, "kind 0 2;kind 0 1;meant 0 0 0 0 1;meant 0 0 0 0 2");
        Due.is("the last kind", x.count(7), 1);
        Due.is("the last meant", x.meant(0, 0, 0, 0), 2);
    }

    private static void notDoneAnyMore() {
        Doc.says("(What is MEANT and can not be done there any more by a work told later: REST is done.)");
        EvenDays x = Due.told("work 1 0 4 4 0;meant 0 0 0 0 1;meant 0 1 0 0 1", "work 1 0 - 4 0");
        Due.is("rest is done", x.person(0, 0, 10), 5);
        Due.is("in the other valley it is", x.person(1, 0, 10), 1);
        Due.is("unlike", x.breaches(0), 1);
        x.days(1);
        Due.is("no bread", x.bread(0), 100000);
        Due.is("bread", x.bread(1), 100004);
        EvenDays y = Due.told("meant 0 0 0 0 1;work 1 0 - 4 0");
        Due.is("in the same text", y.person(0, 0, 10), 5);
    }

    private static void behindLines() {
        Doc.says("Behind them DAYS are 0, nobody is ILL, nothing is DONE otherwise, there is no BREAD, there are no FAULTS, nothing is owed, nothing is kept");
        for (String line : FORMS) {
            EvenDays x = Due.told("work 0 0 5 7 0;meant 0 0 0 0 0;meant 0 1 0 0 0;meant 1 1 1 0 0");
            x.days(2);
            x.ill(0, 0, true);
            x.ill(1, 1, true);
            for (int i = 0; i < 8; i++) x.done(i & 1, i >> 1 & 1, i >> 2, 4);
            x.keep(0);
            x.keep(1);
            Due.is("there was bread", x.bread(0) + x.bread(1), 200019);
            Due.is("there were faults", x.as(0, 0), 4);
            Due.tell(x, line);
            Due.is("days", x.count(4), 0);
            for (int i = 0; i < 4; i++) {
                Due.is("faults", x.person(i & 1, i >> 1, 0), 0);
                Due.is("owed", x.person(i & 1, i >> 1, 1), 0);
                Due.isTrue("done otherwise", x.person(i & 1, i >> 1, 10) != 4);
                Due.isTrue("done otherwise", x.person(i & 1, i >> 1, 11) != 4);
                Due.is("ill", x.ill(i & 1, i >> 1, false), 0);
            }
            Due.is("bread", x.bread(0), 100000);
            Due.is("bread", x.bread(1), 100000);
            Due.is("kept", x.back(0), Due.NOT);
            Due.is("kept", x.back(1), Due.NOT);
        }
    }

    private static void harmLikingRecordStay() {
        Doc.says("(HARM, LIKING, THE RECORD stay)");
        for (String line : FORMS) {
            EvenDays x = new EvenDays();
            x.harm(1, 1, 9);
            x.like(0, 0, 1, 8);
            x.like(1, 0, 1, 7);
            x.record(false);
            x.record(true);
            Due.tell(x, line);
            Due.is("fours", x.fours(0), 7);
            Due.is("rows", x.count(5), 2);
            Due.is("slips", x.slips(9, 9, 0), 18);
            Due.is("harm", x.harm(1, 1, 0), 9);
        }
    }

    // ---- the promises

    private static void newObject() {
        Doc.promises(1, "Two PAIRS, two HOURS, all REST.");
        EvenDays x = new EvenDays();
        Due.is("pairs", x.count(0), 2);
        Due.is("hours", x.count(1), 2);
        for (int i = 0; i < 8; i++) Due.is("does", x.person(i & 1, i >> 1 & 1, 10 + (i >> 2)), 5);
        int[] counts = {2, 2, 0, 1, 0, 0, 0, 0, 0, -1, -1, -1, -1};
        for (int what = 0; what < counts.length; what++) Due.is("count", x.count(what), counts[what]);
        Due.is("not ill", x.ill(1, 1, false), 0);
        Due.is("no text", x.erase(), 0);
        Due.is("no rows", x.burn(), 0);
        Due.is("no image", x.back(0), Due.NOT);
        Due.is("no image", x.back(1), Due.NOT);
    }

    private static void write() {
        Doc.promises(2, "n (1 .. 8) bytes more of THE TEXT");
        EvenDays x = new EvenDays();
        int bytes = 0;
        for (int n = 1; n <= 8; n++) {
            bytes += n;
            Due.is("write " + n, x.write(0, n), bytes);
            Due.is("bytes", x.count(6), bytes);
        }
    }

    private static void writeBytes() {
        Doc.promises(2, "byte i being bytes >> 8 i & 255");
        EvenDays x = new EvenDays();
        long eats17 = 'e' | 'a' << 8 | 't' << 16 | (long) 's' << 24 | (long) ' ' << 32 | (long) '1' << 40 | (long) '7' << 48 | (long) ' ' << 56;
        x.write(eats17, 8);
        Due.is("eight", x.treaty(), 1);
        Due.is("eight", x.count(2), 17);
        // of the bytes behind the n nothing comes, and none of what was there ahead is seen
        Due.is("two", x.write(eats17, 2), 2);
        Due.is("one of eight", x.write(-1L << 8 | 't', 1), 3);
        x.write('s' | '9' << 8 | 0x7fL << 48, 2);
        Due.is("in parts", x.treaty(), 1);
        Due.is("in parts", x.count(2), 9);
        for (int i = 0; i < 8; i++) {
            // a byte of 255 alone, the others blanks: it is a TOKEN that can not stand there
            x.write(0x2020202020202020L | 0xffL << 8 * i, 8);
            Due.is("byte " + i, x.fault(), i);
            x.erase();
            x.write(0x2020202020202020L ^ 0xa0L << 8 * i, 8);
            Due.is("a byte of 128, " + i, x.fault(), i);
            x.erase();
        }
    }

    private static void writeOutside() {
        Doc.promises(2, "how many it has. OUTSIDE; FULL.");
        EvenDays x = new EvenDays();
        Due.write(x, "fine 7");
        for (int n : new int[] {LEAST, -8, -1, 0, 9, 16, 256 + 1, MOST}) {
            Due.is("write " + n, x.write('7', n), Due.OUTSIDE);
            Due.is("bytes", x.count(6), 6);
        }
        Due.is("the text is as it was", x.treaty(), 1);
        Due.is("the text is as it was", x.count(3), 7);
    }

    private static void writeFull() {
        Doc.promises(2, "how many it has. OUTSIDE; FULL.");
        for (int n = 1; n <= 8; n++) {
            EvenDays x = new EvenDays();
            Due.is("just not full", Due.write(x, blanks(200 - n)), 200 - n);
            if (n < 8) Due.is("one too many", x.write('.', n + 1), Due.FULL);
            Due.is("nothing changed", x.count(6), 200 - n);
            Due.is("nothing changed", x.fault(), 200 - n);
            Due.is("just full", x.write(0x2020202020202020L, n), 200);
            Due.is("full", x.write(' ', 1), Due.FULL);
            Due.is("full", x.write(' ', 8), Due.FULL);
            Due.is("full and outside", x.write(' ', 9), Due.OUTSIDE);
            Due.is("full and outside", x.write(' ', 0), Due.OUTSIDE);
            Due.is("nothing changed", x.erase(), 200);
        }
    }

    private static void erase() {
        Doc.promises(3, "THE TEXT is empty: how many bytes it had.");
        EvenDays x = new EvenDays();
        Due.is("empty", x.erase(), 0);
        x.write('.', 1);
        Due.is("one", x.erase(), 1);
        Due.is("then empty", x.erase(), 0);
        Due.write(x, "eats 9;" + blanks(193));
        Due.is("full", x.erase(), 200);
        Due.is("bytes", x.count(6), 0);
        Due.is("fault", x.fault(), 0);
        Due.is("from the first byte on", x.write('f', 1), 1);
        Due.write(x, "ine 8");
        Due.is("nothing of the old is read", x.treaty(), 1);
        Due.is("eats is as it was", x.count(2), 0);
    }

    private static void fault() {
        Doc.promises(4, "The place of the FAULT (the byte with which the TOKEN begins, or the length); NONE.");
        EvenDays x = new EvenDays();
        Doc.fault(x, "^;");
        Doc.fault(x, "fine 8");
        Doc.fault(x, "fine^");
        Doc.fault(x, "fine   ^100   ");
        Due.write(x, "treaty 6 4;fine 9");
        Due.is("none", x.fault(), Due.NONE);
        Due.is("again", x.fault(), Due.NONE);
        Due.is("nothing was done", x.count(0), 2);
        Due.is("nothing was done", x.count(3), 1);
        Due.is("the text stays", x.count(6), 17);
        x.write('.', 1);
        Due.is("then there is one", x.fault(), 17);
        Due.is("again", x.fault(), 17);
        x.erase();
        Due.tell(x, "eats 1");
        Due.is("nor by another text", x.count(0), 2);
        Due.is("nor by another text", x.count(3), 1);
    }

    private static void treaty() {
        Doc.promises(5, "THE TEXT's LINES are done, and it is empty then: how many there were.");
        EvenDays x = new EvenDays();
        for (int lines = 1; lines <= 10; lines++) {
            Due.write(x, "fine " + lines + ";fine 0".repeat(lines - 1));
            Due.is("lines", x.treaty(), lines);
            Due.is("empty", x.count(6), 0);
            Due.is("done", x.count(3), lines == 1 ? 1 : 0);
        }
        Due.is("from the first byte on", x.write(' ', 1), 1);
    }

    private static void treatyNot() {
        Doc.promises(5, "NOT: it has a FAULT.");
        EvenDays x = Due.told("treaty 3 3;fine 2;kind 2 1");
        x.days(3);
        x.keep(1);
        int owed = x.person(0, 2, 1);
        for (String wrong : new String[] {"", "treaty 1 1;fine 9;peace", "treaty 1 1;fine 9;", "eats 9;fine", "fine 100"}) {
            Due.write(x, wrong);
            Due.is("treaty", x.treaty(), Due.NOT);
            Due.is("pairs", x.count(0), 3);
            Due.is("fine", x.count(3), 2);
            Due.is("eats", x.count(2), 0);
            Due.is("days", x.count(4), 3);
            Due.is("owed", x.person(0, 2, 1), owed);
            Due.is("kind", x.count(9), 1);
            Due.is("kept", x.back(1), 3);
            Due.is("the text stays", x.erase(), wrong.length());
        }
        Due.isTrue("something is owed", owed > 0);
        // nor is anything of it done when another text is
        Due.tell(x, "kind 1 2");
        Due.is("pairs", x.count(0), 3);
        Due.is("fine", x.count(3), 2);
        Due.is("eats", x.count(2), 0);
        Due.is("kind", x.count(9), 1);
        Due.is("the new kind", x.count(8), 2);
    }

    private static void worksAsked() {
        Doc.promises(6, "Of a WORK (0 .. 5)");
        EvenDays x = Due.told("work 0 1 1 1 1;work 4 2 2 2 2");
        int[] due = {1, 0, 0, 0, 2};
        for (int what = 0; what < 4; what++) {
            for (int work = 0; work < 5; work++) Due.is("work " + work, x.work(work, what), due[work]);
            Due.is("rest", x.work(5, what), what == 0 ? 4 : 0);
            for (int work : new int[] {LEAST, -2, -1, 6, 7, MOST}) Due.is("work " + work, x.work(work, what), Due.UNKNOWN);
        }
    }

    private static void workAsked() {
        Doc.promises(6, "CLASS (what 0), BREAD in VALLEY 0, 1 (1, 2; NONE: it can not be done there), WORTH (3). UNKNOWN; OUTSIDE.");
        EvenDays x = Due.told("work 4 3 - 19 18");
        int[] due = {3, Due.NONE, 19, 18};
        for (int what = 0; what < 4; what++) Due.is("what " + what, x.work(4, what), due[what]);
        for (int what : new int[] {LEAST, -1, 4, MOST}) {
            for (int work = 0; work < 6; work++) Due.is("what " + what, x.work(work, what), Due.OUTSIDE);
            for (int work : new int[] {LEAST, -1, 6, MOST}) Due.is("unknown goes ahead", x.work(work, what), Due.UNKNOWN);
        }
        for (int work : new int[] {LEAST, -1, 6, MOST}) Due.is("work " + work, x.work(work, 0), Due.UNKNOWN);
    }

    private static void meantAsked() {
        Doc.promises(7, "What is MEANT. UNKNOWN: VALLEY, PAIR, HOUR; OUTSIDE: even 0, 1.");
        EvenDays x = Due.told("meant 0 0 0 0 0;meant 1 0 0 0 1");
        Due.is("even", x.meant(0, 0, 0, 0), 0);
        Due.is("odd", x.meant(1, 0, 0, 0), 1);
        for (int even : new int[] {LEAST, -1, 2, MOST}) {
            Due.is("even " + even, x.meant(even, 0, 0, 0), Due.OUTSIDE);
            Due.is("valley goes ahead", x.meant(even, 2, 0, 0), Due.UNKNOWN);
            Due.is("pair goes ahead", x.meant(even, 0, 2, 0), Due.UNKNOWN);
            Due.is("hour goes ahead", x.meant(even, 0, 0, 2), Due.UNKNOWN);
        }
    }

    private static void counts() {
        Doc.promises(28, "0 PAIRS, 1 HOURS, 2 EATS, 3 FINE, 4 DAYS, 5 rows of THE RECORD, 6 bytes of THE TEXT");
        EvenDays x = Due.told("treaty 3 4;eats 5;fine 6");
        x.days(7);
        for (int i = 0; i < 8; i++) x.record(true);
        Due.write(x, "123456789");
        for (int what = 0; what < 7; what++) Due.is("count " + what, x.count(what), 3 + what);
        for (int what : new int[] {LEAST, -1, 13, MOST}) Due.is("count " + what, x.count(what), Due.OUTSIDE);
    }

    private static void countsOfKinds() {
        Doc.promises(28, "7 to 12 KINDS of PAIRS 0 to 5 (NONE: there is none). OUTSIDE.");
        for (int n = 1; n <= 6; n++) {
            EvenDays x = Due.told("treaty 6 1;kind 0 1;kind 1 2;kind 2 3;kind 3 1;kind 4 2;kind 5 3");
            for (int pair = 0; pair < 6; pair++) Due.is("kind", x.count(7 + pair), 1 + pair % 3);
            Due.tell(x, "treaty " + n + " 1;kind " + (n - 1) + " 2");
            for (int pair = 0; pair < 6; pair++) {
                Due.is("kind", x.count(7 + pair), pair >= n ? Due.NONE : pair == n - 1 ? 2 : 0);
            }
            Due.is("13", x.count(13), Due.OUTSIDE);
        }
    }
}
