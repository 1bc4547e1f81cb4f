/** What the tests share: answers that are due, and texts told as strings. */
final class Due {
    static final int NONE = EvenDays.NONE, UNKNOWN = EvenDays.UNKNOWN, OUTSIDE = EvenDays.OUTSIDE;
    static final int NOT = EvenDays.NOT, FULL = EvenDays.FULL;

    private static int looked = 0, wrong = 0, lookedBefore = 0;
    private static String sentence = "";

    private Due() {
    }

    /** What is answered wrongly from here on is printed with this sentence. */
    static void begin(String next) {
        isTrue("something is looked at", sentence.isEmpty() || looked > lookedBefore);
        sentence = next;
    }

    static void lookFromHere() {
        lookedBefore = looked;
    }

    static void is(String call, long got, long want) {
        looked++;
        if (got == want) return;
        wrong++;
        if (!sentence.isEmpty()) System.out.println("\"" + sentence + "\":");
        System.out.println(call + " answered " + got + ", due is " + want);
    }

    /** How many answers were looked at so far. */
    static int looked() {
        return looked;
    }

    static void isTrue(String what, boolean is) {
        is(what, is ? 1 : 0, 1);
    }

    /** Writes a text by eights of bytes: what the last write answered. */
    static int write(EvenDays x, String text) {
        int answer = x.count(6);
        for (int from = 0; from < text.length(); from += 8) {
            int n = Math.min(8, text.length() - from);
            long bytes = 0;
            for (int i = 0; i < n; i++) bytes |= (long) text.charAt(from + i) << 8 * i;
            answer = x.write(bytes, n);
        }
        return answer;
    }

    static void tell(EvenDays x, String text) {
        is("bytes of " + text, write(x, text), text.length());
        int due = 1;
        for (int i = 0; i < text.length(); i++) if (text.charAt(i) == ';') due++;
        is("treaty() of " + text, x.treaty(), due);
    }

    static EvenDays told(String... texts) {
        EvenDays x = new EvenDays();
        for (String text : texts) tell(x, text);
        return x;
    }

    /** The FAULT of a text upon x, which loses the text again. */
    static void faultIs(EvenDays x, String text, int place) {
        write(x, text);
        is("fault() of \"" + text + "\"", x.fault(), place);
        if (place != NONE) is("treaty() of \"" + text + "\"", x.treaty(), NOT);
        is("erase() of \"" + text + "\"", x.erase(), text.length());
    }

    static void end(String test) {
        System.out.println(test + ": " + looked + " answers, " + wrong + " not as due");
        if (wrong != 0 || looked == 0) System.exit(1);
    }
}
