import java.util.ArrayList;
import java.util.List;
import java.util.regex.Matcher;
import java.util.regex.Pattern;

/** Texts that are right, and such that were spoiled somewhere, read once more by another reader. */
public final class TextModelTest {
    private static final Pattern TOKEN = Pattern.compile("[a-z]+|[0-9]+|[^ ]", Pattern.DOTALL);
    private static final String BYTES = " ;-  ;0123456789treatyworkindmeantsfinz.,\t\n\0AZ`{/:\u0080\u00ff";

    private final EvenDays x = new EvenDays();
    private Model told = new Model();
    private long seed;

    private TextModelTest(long seed) {
        this.seed = seed * 104729 + 777;
    }

    public static void main(String[] args) {
        for (int run = 0; run < 6000; run++) new TextModelTest(run).run();
        Due.end("TextModelTest");
    }

    private int some(int bound) {
        seed = seed * 6364136223846793005L + 1442695040888963407L;
        return (int) ((seed >>> 33) % bound);
    }

    /** Four texts of up to 25 writes, and what is seen then, are fewer than 512 calls. */
    private void run() {
        for (int text = 0; text < 4; text++) {
            String said = someText();
            Model draft = copy(told);
            Reader reader = new Reader(said, draft);
            int place = reader.read();
            Due.is("bytes of " + said, Due.write(x, said), said.length());
            Due.is("fault of \"" + said + "\"", x.fault(), place);
            Due.is("treaty of \"" + said + "\"", x.treaty(), place == Due.NONE ? reader.lines : Due.NOT);
            Due.is("erase", x.erase(), place == Due.NONE ? 0 : said.length());
            if (place == Due.NONE) told = draft;
            seen();
        }
    }

    private void seen() {
        int[] counts = {told.n, told.h, told.eats, told.fine, 0, 0, 0};
        for (int what = 0; what < counts.length; what++) Due.is("count " + what, x.count(what), counts[what]);
        for (int pair = 0; pair < 6; pair++) Due.is("kind", x.count(7 + pair), pair < told.n ? told.kind[pair] : Due.NONE);
        for (int i = 0; i < 20; i++) Due.is("work", x.work(i / 4, i % 4), told.works[i / 4][i % 4]);
        int even = some(2), valley = some(2);
        for (int pair = 0; pair < told.n; pair++) {
            for (int hour = 0; hour < told.h; hour++) {
                Due.is("meant", x.meant(even, valley, pair, hour), told.meant[even][valley][pair][hour]);
            }
        }
    }

    private static Model copy(Model from) {
        Model to = new Model();
        to.n = from.n;
        to.h = from.h;
        to.eats = from.eats;
        to.fine = from.fine;
        to.kind = from.kind.clone();
        for (int work = 0; work < 6; work++) to.works[work] = from.works[work].clone();
        for (int i = 0; i < 24; i++) to.meant[i & 1][i >> 1 & 1][i >> 2] = from.meant[i & 1][i >> 1 & 1][i >> 2].clone();
        return to;
    }

    // ---- texts

    private String someText() {
        StringBuilder text = new StringBuilder();
        int lines = some(8) == 0 ? 8 + some(5) : 1 + some(4);
        for (int i = 0; i < lines; i++) text.append(i > 0 ? ";" : "").append(someLine());
        for (int spoils = some(2) * (1 + some(2)); spoils > 0; spoils--) spoil(text);
        if (some(12) == 0) while (text.length() < 200) text.insert(some(text.length() + 1), ' ');
        text.setLength(Math.min(text.length(), 200));
        return text.toString();
    }

    /** Numbers are inside their bounds mostly, and else just outside. */
    private String number(int most) {
        int n = some(40) == 0 ? most + 1 : some(most + 1);
        return (n < 10 && some(9) == 0 ? "0" : "") + n;
    }

    private String bread() {
        return some(4) == 0 ? "-" : number(20);
    }

    private String someLine() {
        switch (some(10)) {
            case 0: return "treaty " + (1 + some(6)) + " " + (1 + some(4));
            case 1: return "treaty " + number(6) + " " + number(4);
            case 2: case 3: return "work " + number(4) + " " + number(3) + " " + bread() + " " + bread() + " " + number(20);
            case 4: return "kind " + number(told.n - 1) + " " + number(3);
            case 5: return "eats " + number(20);
            case 6: return "fine " + some(101);
            default: return "meant " + number(1) + " " + number(1) + " " + number(told.n - 1) + " " + number(told.h - 1) + " " + number(5);
        }
    }

    private void spoil(StringBuilder text) {
        int place = some(text.length() + 1);
        char sign = BYTES.charAt(some(BYTES.length()));
        int how = some(5);
        if (how == 0) text.insert(place, sign);
        if (how == 1 && place < text.length()) text.deleteCharAt(place);
        if (how == 2 && place < text.length()) text.setCharAt(place, sign);
        if (how == 3) text.setLength(place);
        if (how == 4 && some(3) == 0) text.insert(place, text.substring(some(place + 1), place));
    }

    // ---- the other reader: all TOKENS first, then LINE by LINE

    private static final class Reader {
        private final Model draft;
        private final List<String> tokens = new ArrayList<>();
        private final List<Integer> places = new ArrayList<>();
        private int at = 0, lines = 0;
        private boolean isFault = false;

        Reader(String text, Model draft) {
            this.draft = draft;
            Matcher m = TOKEN.matcher(text);
            while (m.find()) {
                tokens.add(m.group());
                places.add(m.start());
            }
            tokens.add("");
            places.add(text.length());
        }

        int read() {
            do {
                line();
                if (!isFault) lines++;
            } while (!isFault && lines < 10 && take(";"));
            return !isFault && tokens.get(at).isEmpty() ? Due.NONE : places.get(at);
        }

        private boolean take(String token) {
            if (!tokens.get(at).equals(token)) return false;
            at++;
            return true;
        }

        private void line() {
            if (take("treaty")) {
                int[] t = numbers(1, 6, 1, 4);
                if (!isFault) draft.treaty(t[0], t[1]);
            } else if (take("work")) {
                int[] w = numbers(0, 4, 0, 3, -1, 20, -1, 20, 0, 20);
                if (!isFault) draft.works[w[0]] = new int[] {w[1], w[2], w[3], w[4]};
            } else if (take("kind")) {
                int[] k = numbers(0, draft.n - 1, 0, 3);
                if (!isFault) draft.kind[k[0]] = k[1];
            } else if (take("meant")) {
                int[] m = numbers(0, 1, 0, 1, 0, draft.n - 1, 0, draft.h - 1, 0, 5);
                if (!isFault && !draft.possible(m[1], m[4])) {
                    at--;
                    isFault = true;
                }
                if (!isFault) draft.meant[m[0]][m[1]][m[2]][m[3]] = m[4];
            } else if (take("eats")) {
                int[] e = numbers(0, 20);
                if (!isFault) draft.eats = e[0];
            } else if (take("fine")) {
                int[] f = numbers(0, 99);
                if (!isFault) draft.fine = f[0];
            } else {
                isFault = true;
            }
        }

        /** As many numbers as there are pairs of bounds; from -1 on, - may stand for it. */
        private int[] numbers(int... bounds) {
            int[] all = new int[bounds.length / 2];
            for (int i = 0; i < all.length && !isFault; i++) {
                String token = tokens.get(at);
                boolean isNone = token.equals("-") && bounds[2 * i] == -1;
                boolean isNumber = token.matches("[0-9]{1,2}");
                all[i] = isNumber ? Integer.parseInt(token) : -1;
                isFault = !isNone && (!isNumber || all[i] < bounds[2 * i] || all[i] > bounds[2 * i + 1]);
                if (!isFault) at++;
            }
            return all;
        }
    }
}
