/** Promises 1 to 7 and 28: what a new object is, texts, works, what is meant, counts. */
public final class ToldTest {
    private static final String FIVE_EATS = "eats 5;eats 5;eats 5;eats 5;eats 5";

    public static void main(String[] args) {
        newObject();
        writing();
        erasing();
        faultsOfWords();
        faultsOfNumbers();
        faultsBehindLinesAhead();
        faultsOfBlanksAndBytes();
        faultsOfLines();
        treatyDoesLines();
        treatyBeginsAnew();
        whatStaysBehindATreaty();
        works();
        meant();
        counts();
        Due.end("ToldTest");
    }

    private static void newObject() {
        EvenDays x = new EvenDays();
        int[] due = {2, 2, 0, 1, 0, 0, 0, 0, 0, -1, -1, -1, -1};
        for (int what = 0; what < due.length; what++) Due.is("new count " + what, x.count(what), due[what]);
        for (int work = 0; work < 5; work++) {
            for (int what = 0; what < 4; what++) Due.is("new work " + work + " " + what, x.work(work, what), 0);
        }
        for (int i = 0; i < 16; i++) {
            Due.is("new meant " + i, x.meant(i & 1, i >> 1 & 1, i >> 2 & 1, i >> 3), 5);
        }
        Due.is("new bread", x.bread(0), 100000);
        Due.is("new bread", x.bread(1), 100000);
        Due.is("new fault", x.fault(), 0);
        Due.is("new harm", x.anew(-1), 0);
        Due.is("new liking", x.fours(0), 0);
    }

    private static void writing() {
        EvenDays x = new EvenDays();
        Due.is("write 0", x.write(0, 0), Due.OUTSIDE);
        Due.is("write 9", x.write(0, 9), Due.OUTSIDE);
        Due.is("write -1", x.write(0, -1), Due.OUTSIDE);
        Due.is("write least", x.write(-1, Integer.MIN_VALUE), Due.OUTSIDE);
        for (int i = 1; i <= 24; i++) Due.is("write 8", x.write(0x2020202020202020L, 8), 8 * i);
        Due.is("write 7", x.write(0x20202020202020L, 7), 199);
        Due.is("write over the end", x.write(0x2020, 2), Due.FULL);
        Due.is("write 9 when nearly full", x.write(0, 9), Due.OUTSIDE);
        Due.is("bytes", x.count(6), 199);
        Due.is("write the 200th", x.write('f', 1), 200);
        Due.is("write a 201st", x.write(' ', 1), Due.FULL);
        Due.is("fault at the 200th", x.fault(), 199);
        Due.is("erase 200", x.erase(), 200);
        // the bytes behind the n that are told are left out; the 8th one is that of the sign
        Due.is("write with more behind", x.write(0x7f00000000000000L | 'f', 1), 1);
        x.write('i' | 'n' << 8 | 'e' << 16, 3);
        x.write('7', 1);
        Due.is("written in parts", x.fault(), Due.NONE);
        x.write(0x8000000000000000L | 0x20202020202020L, 8);
        Due.is("a byte of 128", x.fault(), 12);
    }

    private static void erasing() {
        EvenDays x = new EvenDays();
        Due.is("erase nothing", x.erase(), 0);
        Due.write(x, "fine 7");
        Due.is("erase", x.erase(), 6);
        Due.is("erase again", x.erase(), 0);
        Due.is("fine is as it was", x.count(3), 1);
        Due.tell(x, "eats 3");
        Due.is("eats", x.count(2), 3);
    }

    private static void faultsOfWords() {
        EvenDays x = new EvenDays();
        String[] notWords = {"peace", "dine 3", "xreaty 1 1", "treat", "treatys", "Treaty 1 1", "works 0", "kin", "mean", "eat", "fines 3", "7", "-", ";"};
        for (String text : notWords) Due.faultIs(x, text, 0);
        Due.faultIs(x, "  finee 3", 2);
        Due.faultIs(x, "fine eats", 5);
        Due.faultIs(x, "finefine 3", 0);
        Due.faultIs(x, "fine 3 fine 3", 7);
        Due.faultIs(x, "fine 3 4", 7);
        Due.faultIs(x, "fine 3,", 6);
        Due.faultIs(x, "fine 3;peace", 7);
    }

    private static void faultsOfNumbers() {
        EvenDays x = new EvenDays();
        Due.faultIs(x, "treaty 0 1", 7);
        Due.faultIs(x, "treaty 7 1", 7);
        Due.faultIs(x, "treaty 6 0", 9);
        Due.faultIs(x, "treaty 6 5", 9);
        Due.faultIs(x, "treaty 6 4", Due.NONE);
        Due.faultIs(x, "treaty 1 1", Due.NONE);
        Due.faultIs(x, "work 5 0 0 0 0", 5);
        Due.faultIs(x, "work 4 4 0 0 0", 7);
        Due.faultIs(x, "work 4 3 21 0 0", 9);
        Due.faultIs(x, "work 4 3 20 21 0", 12);
        Due.faultIs(x, "work 4 3 20 20 21", 15);
        Due.faultIs(x, "work 4 3 20 20 20", Due.NONE);
        Due.faultIs(x, "work 4 3 - - -", 13);
        Due.faultIs(x, "work 4 3 -- 20", Due.NONE);
        Due.faultIs(x, "work - 3 -- 20", 5);
        Due.faultIs(x, "work 4 3 -5 20 1", 15);
        Due.faultIs(x, "work 4 3 , 5 1", 9);
        Due.faultIs(x, "work 4 3 5 ; 1", 11);
        Due.faultIs(x, "work 4 3 x 5 1", 9);
        Due.faultIs(x, "work 4 3 5 005 1", 11);
        Due.faultIs(x, "kind 2 0", 5);
        Due.faultIs(x, "kind 1 4", 7);
        Due.faultIs(x, "kind 1 3", Due.NONE);
        Due.faultIs(x, "meant 2 0 0 0 5", 6);
        Due.faultIs(x, "meant 1 2 0 0 5", 8);
        Due.faultIs(x, "meant 1 1 2 0 5", 10);
        Due.faultIs(x, "meant 1 1 1 2 5", 12);
        Due.faultIs(x, "meant 1 1 1 1 6", 14);
        Due.faultIs(x, "meant 1 1 1 1 5", Due.NONE);
        Due.faultIs(x, "eats 21", 5);
        Due.faultIs(x, "eats 20", Due.NONE);
        Due.faultIs(x, "fine 99", Due.NONE);
        Due.faultIs(x, "fine 100", 5);
        Due.faultIs(x, "fine 00", Due.NONE);
        Due.faultIs(x, "fine 001", 5);
        Due.faultIs(x, "fine 4294967297", 5);
        Due.faultIs(x, "fine 99999999999999999999", 5);
        Due.faultIs(x, "treaty 001 1", 7);
        Due.faultIs(x, "treaty 11", 7);
    }

    private static void faultsBehindLinesAhead() {
        EvenDays x = new EvenDays();
        Due.faultIs(x, "kind 2 1", 5);
        Due.faultIs(x, "treaty 3 1;kind 2 1", Due.NONE);
        Due.faultIs(x, "treaty 3 1;kind 3 1", 16);
        Due.faultIs(x, "kind 1 1;treaty 1 1;kind 1 1", 25);
        Due.faultIs(x, "treaty 2 4;meant 0 0 0 3 0", Due.NONE);
        Due.faultIs(x, "treaty 2 1;meant 0 0 0 1 0", 23);
        Due.faultIs(x, "work 2 0 - 1 0;meant 0 0 0 0 2", 29);
        Due.faultIs(x, "work 2 0 - 1 0;meant 0 1 0 0 2", Due.NONE);
        Due.faultIs(x, "work 2 0 1 - 0;meant 0 1 0 0 02;peace", 29);
        Due.faultIs(x, "meant 0 0 0 0 2;work 2 0 - 1 0", Due.NONE);
        Due.faultIs(x, "work 2 0 - - 0;work 2 0 0 0 0;meant 0 0 0 0 2", Due.NONE);
        Due.faultIs(x, "work 2 0 - - 0;meant 0 0 0 0 5", Due.NONE);
        Due.is("nothing came of it", x.count(0), 2);
        // a text that was looked at, and not done, is no line ahead of the next
        Due.faultIs(x, "treaty 1 1;work 0 0 - - 0", Due.NONE);
        Due.faultIs(x, "meant 0 0 1 1 0", Due.NONE);
        Due.tell(x, "work 2 0 - 1 0");
        Due.faultIs(x, "meant 0 0 0 0 2", 14);
        Due.faultIs(x, "treaty 2 2;meant 0 0 0 0 2", 25);
    }

    private static void faultsOfBlanksAndBytes() {
        EvenDays x = new EvenDays();
        Due.faultIs(x, "", 0);
        Due.faultIs(x, "   ", 3);
        Due.faultIs(x, "  fine  7  ", Due.NONE);
        Due.faultIs(x, "fine7", Due.NONE);
        Due.faultIs(x, "fine7;eats7", Due.NONE);
        Due.faultIs(x, "fine7 ; eats7 ;treaty 1 1", Due.NONE);
        Due.faultIs(x, "treaty 2 ", 9);
        Due.faultIs(x, "treaty2", 7);
        Due.faultIs(x, "treaty 2   ", 11);
        Due.faultIs(x, "treaty 2 ;", 9);
        Due.faultIs(x, "fine\t7", 4);
        Due.faultIs(x, "fine 7\n", 6);
        Due.faultIs(x, "fine \0007", 5);
        Due.faultIs(x, "fine 7\377", 6);
        Due.faultIs(x, "FINE 7", 0);
        Due.faultIs(x, "finez 7", 0);
        Due.faultIs(x, "finea 7", 0);
        Due.faultIs(x, "fine 7z", 6);
        Due.faultIs(x, "fine 0;fine 9;fine 09", Due.NONE);
        Due.faultIs(x, "fine +7", 5);
        Due.faultIs(x, "fine -7", 5);
        Due.faultIs(x, "fine {", 5);
        Due.faultIs(x, "`fine 7", 0);
        Due.faultIs(x, "fine 7/", 6);
        Due.faultIs(x, "fine 7:", 6);
    }

    private static void faultsOfLines() {
        EvenDays x = new EvenDays();
        String ten = FIVE_EATS + ";" + FIVE_EATS;
        Due.faultIs(x, ten, Due.NONE);
        Due.faultIs(x, ten + ";", 69);
        Due.faultIs(x, ten + " ;eats 5", 70);
        Due.faultIs(x, ten + "  ", Due.NONE);
        Due.faultIs(x, ten + " 5", 70);
        Due.faultIs(x, "fine 9;", 7);
        Due.faultIs(x, "fine 9; ", 8);
        Due.faultIs(x, "fine 9;;", 7);
        Due.faultIs(x, ";fine 9", 0);
        Due.tell(x, ten);
    }

    private static void treatyDoesLines() {
        EvenDays x = new EvenDays();
        Due.is("treaty of nothing", x.treaty(), Due.NOT);
        Due.write(x, "fine 9;eats 3;fine");
        Due.is("treaty too soon", x.treaty(), Due.NOT);
        Due.is("its bytes stay", x.count(6), 18);
        Due.is("nothing is done", x.count(3), 1);
        Due.write(x, "8");
        Due.is("treaty", x.treaty(), 3);
        Due.is("fine, in order", x.count(3), 8);
        Due.is("eats", x.count(2), 3);
        Due.is("no bytes", x.count(6), 0);
        Due.tell(x, "treaty 3 4;kind 2 3;meant 1 1 2 3 4;treaty 4 3;kind 0 1");
        Due.is("pairs", x.count(0), 4);
        Due.is("hours", x.count(1), 3);
        Due.is("lame", x.count(7), 1);
        Due.is("plain again", x.count(9), 0);
        Due.is("meant is rest again", x.meant(1, 1, 2, 2), 5);
    }

    private static void treatyBeginsAnew() {
        EvenDays x = Due.told("treaty 2 2;work 0 0 5 7 0;meant 0 0 0 0 0;eats 1");
        x.ill(1, 1, true);
        x.days(3);
        x.done(0, 0, 0, 1);
        x.keep(0);
        x.keep(1);
        Due.tell(x, "fine 2");
        Due.is("days", x.count(4), 0);
        Due.is("bread", x.bread(0), 100000);
        Due.is("bread", x.bread(1), 100000);
        Due.is("faults", x.person(0, 0, 0), 0);
        Due.is("owes", x.person(0, 0, 1), 0);
        Due.is("not done otherwise", x.person(0, 0, 10), 0);
        Due.is("not ill", x.ill(1, 1, false), 0);
        Due.is("not kept", x.back(0), Due.NOT);
        Due.is("not kept", x.back(1), Due.NOT);
    }

    private static void whatStaysBehindATreaty() {
        EvenDays x = Due.told("treaty 3 3;work 1 2 3 - 4;kind 2 2;meant 0 0 1 1 1;eats 4;fine 5");
        x.harm(0, 0, 8);
        x.harm(2, 2, 9);
        x.like(0, 0, 1, 6);
        x.like(1, 0, 1, 5);
        x.record(false);
        Due.tell(x, "fine 6");
        Due.is("kind stays", x.count(9), 2);
        Due.is("meant stays", x.meant(0, 0, 1, 1), 1);
        Due.tell(x, "treaty 2 2");
        int[] due = {2, 3, -1, 4};
        for (int what = 0; what < 4; what++) Due.is("work stays", x.work(1, what), due[what]);
        Due.is("eats stays", x.count(2), 4);
        Due.is("fine stays", x.count(3), 6);
        Due.is("the record stays", x.count(5), 1);
        Due.is("liking stays", x.fours(0), 5);
        Due.is("harm stays", x.harm(0, 0, 0), 8);
        Due.tell(x, "treaty 3 1");
        Due.is("harm of a pair that was not", x.harm(2, 2, 0), 9);
        Due.is("plain", x.count(9), 0);
    }

    private static void works() {
        EvenDays x = Due.told("work 4 3 20 - 19;work 0 1 - 0 0");
        int[] four = {3, 20, -1, 19}, none = {1, -1, 0, 0}, rest = {4, 0, 0, 0};
        for (int what = 0; what < 4; what++) {
            Due.is("work 4", x.work(4, what), four[what]);
            Due.is("work 0", x.work(0, what), none[what]);
            Due.is("rest", x.work(5, what), rest[what]);
            Due.is("work -1", x.work(-1, what), Due.UNKNOWN);
            Due.is("work 6", x.work(6, what), Due.UNKNOWN);
        }
        Due.is("what 4", x.work(5, 4), Due.OUTSIDE);
        Due.is("what -1", x.work(0, -1), Due.OUTSIDE);
        Due.is("both wrong", x.work(6, 4), Due.UNKNOWN);
        Due.is("far out", x.work(Integer.MAX_VALUE, 0), Due.UNKNOWN);
    }

    private static void meant() {
        EvenDays x = Due.told("treaty 2 3;meant 0 0 0 0 1;meant 1 0 0 0 2;meant 0 1 0 0 3;meant 0 0 1 2 4");
        Due.is("even", x.meant(0, 0, 0, 0), 1);
        Due.is("odd", x.meant(1, 0, 0, 0), 2);
        Due.is("valley 1", x.meant(0, 1, 0, 0), 3);
        Due.is("last hour", x.meant(0, 0, 1, 2), 4);
        Due.is("others", x.meant(1, 1, 1, 2), 5);
        Due.is("valley", x.meant(0, 2, 0, 0), Due.UNKNOWN);
        Due.is("valley", x.meant(0, -1, 0, 0), Due.UNKNOWN);
        Due.is("pair", x.meant(0, 0, 2, 0), Due.UNKNOWN);
        Due.is("hour", x.meant(0, 0, 0, 3), Due.UNKNOWN);
        Due.is("hour", x.meant(0, 0, 0, -1), Due.UNKNOWN);
        Due.is("even", x.meant(2, 0, 0, 0), Due.OUTSIDE);
        Due.is("even", x.meant(-1, 0, 0, 0), Due.OUTSIDE);
        Due.is("both", x.meant(2, 0, 0, 3), Due.UNKNOWN);
        EvenDays great = Due.told("treaty 6 4;meant 1 1 5 3 4;meant 0 0 0 0 2");
        Due.is("the last of all", great.meant(1, 1, 5, 3), 4);
        Due.is("the first of all", great.meant(0, 0, 0, 0), 2);
        Due.is("one ahead of it", great.meant(1, 1, 5, 2), 5);
        Due.tell(x, "work 1 0 - - 0");
        Due.is("what is meant is still told", x.meant(0, 0, 0, 0), 1);
        Due.is("but rest is done", x.person(0, 0, 10), 5);
        Due.tell(x, "work 1 0 2 - 0");
        Due.is("and it is done when it can be again", x.person(0, 0, 10), 1);
    }

    private static void counts() {
        EvenDays x = Due.told("treaty 6 4;kind 0 3;kind 1 2;kind 2 1;kind 5 3;eats 20;fine 0");
        int[] due = {6, 4, 20, 0, 0, 0, 0, 3, 2, 1, 0, 0, 3};
        for (int what = 0; what < due.length; what++) Due.is("count " + what, x.count(what), due[what]);
        x.days(7);
        x.record(true);
        x.write(0, 3);
        Due.is("days", x.count(4), 7);
        Due.is("rows", x.count(5), 1);
        Due.is("bytes", x.count(6), 3);
        Due.is("13", x.count(13), Due.OUTSIDE);
        Due.is("-1", x.count(-1), Due.OUTSIDE);
        Due.is("least", x.count(Integer.MIN_VALUE), Due.OUTSIDE);
        Due.is("most", x.count(Integer.MAX_VALUE), Due.OUTSIDE);
    }
}
