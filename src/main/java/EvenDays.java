import java.util.Arrays;

/**
 * Two valleys whose doubles do alike on even days and never on odd ones.
 * The public methods look at what they are given and refuse; the classes
 * inside hold one paragraph of the document each and are given what is known.
 */
public final class EvenDays {
    public static final int NONE = -1, UNKNOWN = -2, OUTSIDE = -3, NOT = -4, FULL = -5;

    private static final int VALLEYS = 2, MOST_PAIRS = 6, MOST_HOURS = 4;
    private static final int PERSONS = VALLEYS * MOST_PAIRS, SLOTS = PERSONS * MOST_HOURS;
    private static final int REST = 5, REST_CLASS = 4, HEAVY_CLASS = 3, CLASSES = 4;
    private static final int PLAIN = 0, LAME = 1, CHILD = 2, RELEASED = 3;
    private static final int MOST_BYTES = 200, MOST_LINES = 10, MOST_ROWS = 40, MOST_NEED = 200;
    private static final int IMAGES = 2;
    private static final int FIRST_HOUR_ASKED = 10, FIRST_KIND_ASKED = 7, BREAD_SHIFT = 100000;
    /** More than anything that can be summed here, and far from an int's end. */
    private static final int TOO_MUCH = 1000000;
    /** What each KIND that is asked for is itself: one further up, or none. */
    private static final int[] KIND_ABOVE = {-1, 0, 0, 1, 3, 1, 2};
    private static final int KIND_ASKED_OF_PLAIN = 3;

    private final Told told = new Told();
    private final Told draft = new Told();
    private final Text text = new Text();
    private final Lines lines = new Lines(text);
    private final Days now = new Days();
    private final Days[] kept = {new Days(), new Days()};
    private final boolean[] isKept = new boolean[IMAGES];
    private final Planner planner = new Planner(told);
    private final Messages messages = new Messages();
    private final Partners partners = new Partners();
    private final Marriages marriages = new Marriages();
    private final Rows rows = new Rows();

    public EvenDays() {
    }

    // ---- what is told

    public int write(long bytes, int n) {
        if (!within(n, 1, 8)) return OUTSIDE;
        if (n > MOST_BYTES - text.length) return FULL;
        text.append(bytes, n);
        return text.length;
    }

    public int erase() {
        int had = text.length;
        text.length = 0;
        return had;
    }

    public int fault() {
        draft.becomeLike(told);
        return lines.readInto(draft);
    }

    public int treaty() {
        draft.becomeLike(told);
        if (lines.readInto(draft) != NONE) return NOT;
        told.becomeLike(draft);
        text.length = 0;
        now.beginAnew();
        planner.forget();
        for (int k = 0; k < IMAGES; k++) isKept[k] = false;
        return lines.read;
    }

    public int work(int work, int what) {
        if (!within(work, 0, REST)) return UNKNOWN;
        switch (what) {
            case 0: return told.classOf(work);
            case 1: return told.breadOf(0, work);
            case 2: return told.breadOf(1, work);
            case 3: return told.worthOf(work);
            default: return OUTSIDE;
        }
    }

    public int meant(int even, int valley, int pair, int hour) {
        if (!isSlot(valley, pair, hour)) return UNKNOWN;
        if (!within(even, 0, 1)) return OUTSIDE;
        return told.meantOn(even, valley, pair, hour);
    }

    // ---- days

    public int done(int valley, int pair, int hour, int work) {
        if (!isSlot(valley, pair, hour) || !within(work, 0, REST)) return UNKNOWN;
        if (!told.canBeDone(valley, work)) return NOT;
        now.tellOtherwise(valley, pair, hour, work);
        return 1;
    }

    public int ill(int valley, int pair, boolean is) {
        if (!isPerson(valley, pair)) return UNKNOWN;
        int was = now.isIll(valley, pair) ? 1 : 0;
        now.tellIll(valley, pair, is);
        return was;
    }

    public int days(int n) {
        if (!within(n, 1, 99)) return OUTSIDE;
        for (int i = 0; i < n; i++) now.passOne(told);
        return now.gone;
    }

    public int person(int valley, int pair, int what) {
        if (!isPerson(valley, pair)) return UNKNOWN;
        if (what == 0) return now.faultsOf(valley, pair);
        if (what == 1) return now.owedBy(valley, pair);
        if (!within(what, FIRST_HOUR_ASKED, FIRST_HOUR_ASKED + told.hours - 1)) return OUTSIDE;
        return now.workOf(told, valley, pair, what - FIRST_HOUR_ASKED);
    }

    public int bread(int valley) {
        if (!isValley(valley)) return UNKNOWN;
        return now.bread[valley] + BREAD_SHIFT;
    }

    public int breaches(int pair) {
        if (!told.hasPair(pair)) return UNKNOWN;
        int bits = 0;
        for (int hour = 0; hour < told.hours; hour++) {
            if (now.isBreach(told, pair, hour)) bits |= 1 << hour;
        }
        return bits;
    }

    public int as(int pair, int kind) {
        if (!told.hasPair(pair)) return UNKNOWN;
        if (!within(kind, 0, KIND_ABOVE.length - 1)) return OUTSIDE;
        if (!isSuch(told.kindOf(pair), kind)) return NOT;
        return now.faultsOf(0, pair) + now.faultsOf(1, pair);
    }

    // ---- plans, news

    public int plan(int even, int bread, int what) {
        if (!isPlanAsked(even, bread) || !within(what, 0, 1)) return OUTSIDE;
        int worth = planner.greatestWorth(even, bread);
        if (what == 0 || worth == NONE) return worth;
        return planner.follow(even, bread, told.pairs - 1, told.hours - 1);
    }

    public int planned(int even, int bread, int valley, int pair, int hour) {
        if (!isSlot(valley, pair, hour)) return UNKNOWN;
        if (!isPlanAsked(even, bread)) return OUTSIDE;
        if (planner.greatestWorth(even, bread) == NONE) return NONE;
        planner.follow(even, bread, pair, hour);
        return valley == 0 ? planner.one : planner.other;
    }

    public int news(int classes, int m, int l, boolean alike) {
        if (!within(m, 1, 12) || !within(l, 0, 9)) return OUTSIDE;
        return alike ? messages.toBeAlike(classes, m, l) : messages.toBeNeverAlike(classes, m, l);
    }

    // ---- anew, fours

    public int harm(int one, int other, int v) {
        if (!told.hasPair(one) || !told.hasPair(other)) return UNKNOWN;
        if (!within(v, 0, 99)) return OUTSIDE;
        return partners.changeHarm(one, other, v);
    }

    public int anew(int i) {
        if (i == NONE) return partners.leastHarm(told.pairs, NONE, NONE);
        if (!told.hasPair(i)) return UNKNOWN;
        return partners.partnerOf(told.pairs, i);
    }

    public int forced(int one, int other) {
        if (!told.hasPair(one) || !told.hasPair(other)) return UNKNOWN;
        return partners.leastHarm(told.pairs, one, other);
    }

    public int like(int valley, int one, int other, int v) {
        if (!isPerson(valley, one) || !isPerson(valley, other)) return UNKNOWN;
        if (one == other || !within(v, 0, 99)) return OUTSIDE;
        return marriages.changeLiking(valley, one, other, v);
    }

    public int fours(int what) {
        if (what == 0) return marriages.greatestSum(told.pairs);
        if (what == 1) return marriages.mostFours(told.pairs);
        return OUTSIDE;
    }

    // ---- records, images

    public int record(boolean alike) {
        if (rows.length >= MOST_ROWS) return FULL;
        rows.append(alike);
        return rows.length;
    }

    public int burn() {
        int had = rows.length;
        rows.length = 0;
        return had;
    }

    public int slips(int a, int b, int what) {
        if (!within(a, 1, 9) || !within(b, 1, 9)) return OUTSIDE;
        switch (what) {
            case 0: return rows.leastCost(a, b);
            case 1: return rows.fewestSlips(a, b);
            case 2: return rows.firstSlip(a, b);
            default: return OUTSIDE;
        }
    }

    public int keep(int k) {
        if (!within(k, 0, IMAGES - 1)) return UNKNOWN;
        kept[k].becomeLike(now);
        isKept[k] = true;
        return now.gone;
    }

    public int back(int k) {
        if (!within(k, 0, IMAGES - 1)) return UNKNOWN;
        if (!isKept[k]) return NOT;
        now.becomeLike(kept[k]);
        return now.gone;
    }

    public int count(int what) {
        switch (what) {
            case 0: return told.pairs;
            case 1: return told.hours;
            case 2: return told.eats;
            case 3: return told.fine;
            case 4: return now.gone;
            case 5: return rows.length;
            case 6: return text.length;
            default: break;
        }
        if (!within(what, FIRST_KIND_ASKED, FIRST_KIND_ASKED + MOST_PAIRS - 1)) return OUTSIDE;
        return told.kindOf(what - FIRST_KIND_ASKED);
    }

    // ---- what the calls look at

    private static boolean within(int number, int least, int most) {
        return number >= least && number <= most;
    }

    private static boolean isValley(int valley) {
        return within(valley, 0, VALLEYS - 1);
    }

    private boolean isPerson(int valley, int pair) {
        return isValley(valley) && told.hasPair(pair);
    }

    private boolean isSlot(int valley, int pair, int hour) {
        return isPerson(valley, pair) && told.hasHour(hour);
    }

    private static boolean isPlanAsked(int even, int bread) {
        return within(even, 0, 1) && within(bread, 0, MOST_NEED);
    }

    /** A KIND is asked for by its own number or that of one further up. */
    private static boolean isSuch(int kindOfPair, int asked) {
        int kind = kindOfPair + KIND_ASKED_OF_PLAIN;
        for (int steps = 0; steps < KIND_ABOVE.length; steps++) {
            if (kind == asked) return true;
            if (!within(kind, 0, KIND_ABOVE.length - 1)) return false;
            kind = KIND_ABOVE[kind];
        }
        return false;
    }

    private static int personIndex(int valley, int pair) {
        return valley * MOST_PAIRS + pair;
    }

    private static int slotIndex(int valley, int pair, int hour) {
        return personIndex(valley, pair) * MOST_HOURS + hour;
    }

    /** What the texts told. REST is never held in the rows: it is what is not there. */
    private static final class Told {
        private int pairs, hours, eats, fine;
        private final int[] kinds = new int[MOST_PAIRS];
        private final int[] classes = new int[REST];
        private final int[] breads = new int[VALLEYS * REST];
        private final int[] worths = new int[REST];
        private final int[] meantWorks = new int[2 * SLOTS];

        Told() {
            fine = 1;
            settle(2, 2);
        }

        void settle(int n, int h) {
            pairs = n;
            hours = h;
            Arrays.fill(kinds, PLAIN);
            Arrays.fill(meantWorks, REST);
        }

        void becomeLike(Told other) {
            pairs = other.pairs;
            hours = other.hours;
            eats = other.eats;
            fine = other.fine;
            for (int i = 0; i < MOST_PAIRS; i++) kinds[i] = other.kinds[i];
            for (int i = 0; i < REST; i++) {
                classes[i] = other.classes[i];
                worths[i] = other.worths[i];
            }
            for (int i = 0; i < VALLEYS * REST; i++) breads[i] = other.breads[i];
            for (int i = 0; i < 2 * SLOTS; i++) meantWorks[i] = other.meantWorks[i];
        }

        void tellWork(int work, int itsClass, int worth) {
            if (work < 0 || work >= REST) return;
            classes[work] = itsClass;
            worths[work] = worth;
        }

        void tellBread(int valley, int work, int bread) {
            if (valley < 0 || valley >= VALLEYS || work < 0 || work >= REST) return;
            breads[valley * REST + work] = bread;
        }

        void tellKind(int pair, int kind) {
            if (hasPair(pair) && pair < MOST_PAIRS) kinds[pair] = kind;
        }

        void tellMeant(int odd, int slot, int work) {
            int index = odd * SLOTS + slot;
            if (within(index, 0, meantWorks.length - 1)) meantWorks[index] = work;
        }

        boolean hasPair(int pair) {
            return within(pair, 0, pairs - 1);
        }

        boolean hasHour(int hour) {
            return within(hour, 0, hours - 1);
        }

        int kindOf(int pair) {
            return pair >= 0 && pair < pairs && pair < MOST_PAIRS ? kinds[pair] : NONE;
        }

        int classOf(int work) {
            return work >= 0 && work < REST ? classes[work] : REST_CLASS;
        }

        int worthOf(int work) {
            return work >= 0 && work < REST ? worths[work] : 0;
        }

        int breadOf(int valley, int work) {
            boolean isHeld = valley >= 0 && valley < VALLEYS && work >= 0 && work < REST;
            return isHeld ? breads[valley * REST + work] : 0;
        }

        int meantOn(int odd, int valley, int pair, int hour) {
            int index = odd * SLOTS + slotIndex(valley, pair, hour);
            return within(index, 0, meantWorks.length - 1) ? meantWorks[index] : REST;
        }

        boolean canBeDone(int valley, int work) {
            return breadOf(valley, work) != NONE;
        }

        /** Whether one of the PAIR, if well, does this WORK when it wants to, and not REST for it. */
        boolean mayDo(int valley, int pair, int hour, int work) {
            if (work == REST) return true;
            if (breadOf(valley, work) == NONE) return false;
            int kind = kindOf(pair);
            if (kind == LAME && classOf(work) == HEAVY_CLASS) return false;
            return kind != CHILD || hours < 2 || hour != hours - 1;
        }

        int breadMade(int valley, int pair, int work) {
            int bread = breadOf(valley, work);
            return kindOf(pair) == CHILD ? bread / 2 : bread;
        }

        /** Whether doubles of the PAIR may do these two in one HOUR of such a DAY. */
        boolean keepsTreaty(int odd, int pair, int one, int other) {
            if (kindOf(pair) == RELEASED) return true;
            boolean alike = classOf(one) == classOf(other);
            return alike == (odd == 0);
        }
    }

    /** THE TEXT's bytes. */
    private static final class Text {
        private int length;
        private final int[] signs = new int[MOST_BYTES];

        void append(long bytes, int n) {
            for (int i = 0; i < n && within(length, 0, MOST_BYTES - 1); i++) {
                signs[length] = (int) (bytes >> 8 * i & 255);
                length++;
            }
        }

        int signAt(int place) {
            return place >= 0 && place < length && place < MOST_BYTES ? signs[place] : NONE;
        }
    }

    /** Goes through THE TEXT from TOKEN to TOKEN. */
    private static final class Tokens {
        private static final int END = 0, WORD = 1, NUMBER = 2, SIGN = 3;

        private final Text text;
        private int begin, behind, kind;

        Tokens(Text text) {
            this.text = text;
        }

        void rewind() {
            behind = 0;
            advance();
        }

        void advance() {
            begin = behind;
            while (begin < text.length && text.signAt(begin) == ' ') begin++;
            kind = kindOfSign(text.signAt(begin));
            behind = begin;
            if (kind == END) return;
            behind++;
            if (kind == SIGN) return;
            while (behind < text.length && kindOfSign(text.signAt(behind)) == kind) behind++;
        }

        private static int kindOfSign(int sign) {
            if (sign == NONE) return END;
            if (sign >= 'a' && sign <= 'z') return WORD;
            if (sign >= '0' && sign <= '9') return NUMBER;
            return SIGN;
        }

        boolean isEnd() {
            return kind == END;
        }

        boolean isSign(char sign) {
            return kind == SIGN && text.signAt(begin) == sign;
        }

        boolean isWord(String word) {
            if (kind != WORD || behind - begin != word.length()) return false;
            for (int i = 0; i < word.length(); i++) {
                if (text.signAt(begin + i) != word.charAt(i)) return false;
            }
            return true;
        }

        /** The number that the TOKEN tells: NONE by -, too much if it is none of 1 or 2 digits. */
        int number() {
            if (kind == SIGN && text.signAt(begin) == '-') return NONE;
            if (kind != NUMBER || behind - begin > 2) return TOO_MUCH;
            int value = 0;
            for (int i = begin; i < behind; i++) value = value * 10 + text.signAt(i) - '0';
            return value;
        }
    }

    /** Reads THE TEXT's LINES to their end or first FAULT; once there is one, nothing more is taken. */
    private static final class Lines {
        private final Tokens tokens;
        private int faultAt, read;

        Lines(Text text) {
            tokens = new Tokens(text);
        }

        /** Does the LINES upon the draft: the place of the FAULT, or NONE. */
        int readInto(Told draft) {
            faultAt = NONE;
            tokens.rewind();
            for (int line = 1; line <= MOST_LINES; line++) {
                readLine(draft);
                read = line;
                if (faultAt != NONE || tokens.isEnd()) return faultAt;
                if (line == MOST_LINES || !tokens.isSign(';')) return tokens.begin;
                tokens.advance();
            }
            return faultAt;
        }

        private void readLine(Told draft) {
            if (tokens.isWord("treaty")) readTreaty(draft);
            else if (tokens.isWord("work")) readWork(draft);
            else if (tokens.isWord("kind")) readKind(draft);
            else if (tokens.isWord("meant")) readMeant(draft);
            else if (tokens.isWord("eats")) readEats(draft);
            else if (tokens.isWord("fine")) readFine(draft);
            else faultAt = tokens.begin;
        }

        private void readTreaty(Told draft) {
            tokens.advance();
            int pairs = takeNumber(1, MOST_PAIRS);
            int hours = takeNumber(1, MOST_HOURS);
            if (faultAt == NONE) draft.settle(pairs, hours);
        }

        private void readWork(Told draft) {
            tokens.advance();
            int work = takeNumber(0, REST - 1);
            int itsClass = takeNumber(0, CLASSES - 1);
            int bread = takeNumber(NONE, 20);
            int otherBread = takeNumber(NONE, 20);
            int worth = takeNumber(0, 20);
            if (faultAt != NONE) return;
            draft.tellWork(work, itsClass, worth);
            draft.tellBread(0, work, bread);
            draft.tellBread(1, work, otherBread);
        }

        private void readKind(Told draft) {
            tokens.advance();
            int pair = takeNumber(0, draft.pairs - 1);
            int kind = takeNumber(PLAIN, RELEASED);
            if (faultAt == NONE) draft.tellKind(pair, kind);
        }

        private void readMeant(Told draft) {
            tokens.advance();
            int odd = takeNumber(0, 1);
            int valley = takeNumber(0, VALLEYS - 1);
            int pair = takeNumber(0, draft.pairs - 1);
            int hour = takeNumber(0, draft.hours - 1);
            int place = tokens.begin;
            int work = takeNumber(0, REST);
            if (faultAt != NONE) return;
            if (draft.canBeDone(valley, work)) draft.tellMeant(odd, slotIndex(valley, pair, hour), work);
            else faultAt = place;
        }

        private void readEats(Told draft) {
            tokens.advance();
            int eats = takeNumber(0, 20);
            if (faultAt == NONE) draft.eats = eats;
        }

        private void readFine(Told draft) {
            tokens.advance();
            int fine = takeNumber(0, 99);
            if (faultAt == NONE) draft.fine = fine;
        }

        private int takeNumber(int least, int most) {
            if (faultAt != NONE) return NONE;
            int value = tokens.number();
            if (within(value, least, most)) tokens.advance();
            else faultAt = tokens.begin;
            return value;
        }
    }

    /** What has come of the DAYS, and what is told for the one that comes. */
    private static final class Days {
        private int gone, illBits;
        private final int[] bread = new int[VALLEYS];
        private final int[] faults = new int[PERSONS];
        private final int[] owed = new int[PERSONS];
        private final int[] otherwise = new int[SLOTS];

        Days() {
            beginAnew();
        }

        void beginAnew() {
            gone = 0;
            illBits = 0;
            Arrays.fill(bread, 0);
            Arrays.fill(faults, 0);
            Arrays.fill(owed, 0);
            Arrays.fill(otherwise, NONE);
        }

        void becomeLike(Days other) {
            gone = other.gone;
            illBits = other.illBits;
            for (int i = 0; i < VALLEYS; i++) bread[i] = other.bread[i];
            for (int i = 0; i < PERSONS; i++) {
                faults[i] = other.faults[i];
                owed[i] = other.owed[i];
            }
            for (int i = 0; i < SLOTS; i++) otherwise[i] = other.otherwise[i];
        }

        void tellOtherwise(int valley, int pair, int hour, int work) {
            int slot = slotIndex(valley, pair, hour);
            if (within(slot, 0, SLOTS - 1)) otherwise[slot] = work;
        }

        void tellIll(int valley, int pair, boolean is) {
            int bit = 1 << personIndex(valley, pair);
            illBits = is ? illBits | bit : illBits & ~bit;
        }

        boolean isIll(int valley, int pair) {
            return (illBits >> personIndex(valley, pair) & 1) != 0;
        }

        int faultsOf(int valley, int pair) {
            int person = personIndex(valley, pair);
            return within(person, 0, PERSONS - 1) ? faults[person] : 0;
        }

        int owedBy(int valley, int pair) {
            int person = personIndex(valley, pair);
            return within(person, 0, PERSONS - 1) ? owed[person] : 0;
        }

        private int odd() {
            return gone & 1;
        }

        private int toldFor(int valley, int pair, int hour) {
            int slot = slotIndex(valley, pair, hour);
            return within(slot, 0, SLOTS - 1) ? otherwise[slot] : NONE;
        }

        private boolean isToldOtherwise(Told told, int valley, int pair, int hour) {
            int work = toldFor(valley, pair, hour);
            return work != NONE && work != told.meantOn(odd(), valley, pair, hour);
        }

        int workOf(Told told, int valley, int pair, int hour) {
            if (isIll(valley, pair)) return REST;
            int work = toldFor(valley, pair, hour);
            if (work == NONE) work = told.meantOn(odd(), valley, pair, hour);
            return told.mayDo(valley, pair, hour, work) ? work : REST;
        }

        boolean isBreach(Told told, int pair, int hour) {
            if (isIll(0, pair) || isIll(1, pair)) return false;
            int one = workOf(told, 0, pair, hour);
            int other = workOf(told, 1, pair, hour);
            return !told.keepsTreaty(odd(), pair, one, other);
        }

        void passOne(Told told) {
            for (int pair = 0; pair < told.pairs; pair++) {
                for (int hour = 0; hour < told.hours; hour++) {
                    makeBread(told, pair, hour);
                    if (isBreach(told, pair, hour)) blame(told, pair, hour);
                }
            }
            for (int valley = 0; valley < VALLEYS; valley++) bread[valley] -= told.eats * told.pairs;
            Arrays.fill(otherwise, NONE);
            gone++;
        }

        private void makeBread(Told told, int pair, int hour) {
            for (int valley = 0; valley < VALLEYS; valley++) {
                bread[valley] += told.breadMade(valley, pair, workOf(told, valley, pair, hour));
            }
        }

        private void blame(Told told, int pair, int hour) {
            boolean one = isToldOtherwise(told, 0, pair, hour);
            boolean other = isToldOtherwise(told, 1, pair, hour);
            if (one || !other) addFault(0, pair, told.fine);
            if (other || !one) addFault(1, pair, told.fine);
        }

        private void addFault(int valley, int pair, int fine) {
            int person = personIndex(valley, pair);
            if (!within(person, 0, PERSONS - 1)) return;
            faults[person]++;
            owed[person] += fine;
        }
    }

    /**
     * PLANS, PAIR by PAIR and HOUR by HOUR a place each. For each place and need of BREAD
     * it knows the greatest WORTH from there on; this holds till the next text, so it is
     * reckoned once for EVEN and once for ODD DAYS.
     */
    private static final class Planner {
        private static final int NEEDS = MOST_NEED + 1, ROWS = MOST_PAIRS * MOST_HOURS + 1;
        private static final int MOST_MADE = VALLEYS * 20;

        private final Told told;
        private final int[] best = new int[2 * ROWS * NEEDS];
        /** For each BREAD that two may make at a place, the greatest WORTH with just so much. */
        private final int[] worthFor = new int[MOST_MADE + 1];
        private final boolean[] isReckoned = new boolean[2];
        /** What the two do at the place that was followed to last. */
        private int one, other;

        Planner(Told told) {
            this.told = told;
        }

        void forget() {
            isReckoned[0] = false;
            isReckoned[1] = false;
        }

        int greatestWorth(int odd, int need) {
            if (!within(odd, 0, 1)) return NONE;
            if (!isReckoned[odd]) reckon(odd);
            isReckoned[odd] = true;
            return bestFrom(rowOf(odd, 0, 0), need);
        }

        private int rowOf(int odd, int pair, int hour) {
            return (odd * ROWS + pair * told.hours + hour) * NEEDS;
        }

        private int bestFrom(int row, int need) {
            int index = row + Math.max(need, 0);
            return within(index, 0, best.length - 1) ? best[index] : NONE;
        }

        private void reckon(int odd) {
            clearRow(rowOf(odd, told.pairs, 0));
            offer(rowOf(odd, told.pairs, 0), 0, 0);
            for (int pair = told.pairs - 1; pair >= 0; pair--) {
                for (int hour = told.hours - 1; hour >= 0; hour--) {
                    findWorths(odd, pair, hour);
                    reckonRow(rowOf(odd, pair, hour));
                }
            }
        }

        private void reckonRow(int row) {
            int worth = NONE;
            clearRow(row);
            for (int made = MOST_MADE; made >= 0; made--) {
                // What has no more WORTH than something with more BREAD is never needed.
                if (worthFor[made] <= worth) continue;
                worth = worthFor[made];
                offerAll(row, made, worth);
            }
        }

        private void findWorths(int odd, int pair, int hour) {
            Arrays.fill(worthFor, NONE);
            for (int first = 0; first <= REST; first++) {
                for (int second = 0; second <= REST; second++) {
                    if (!isAllowed(odd, pair, hour, first, second)) continue;
                    int made = madeBy(pair, first, second);
                    if (!within(made, 0, MOST_MADE)) continue;
                    worthFor[made] = Math.max(worthFor[made], worthOf(first, second));
                }
            }
        }

        private void offerAll(int row, int made, int worth) {
            for (int need = 0; need < NEEDS; need++) {
                int rest = bestFrom(row + NEEDS, need - made);
                if (rest == NONE) return;
                offer(row, need, rest + worth);
            }
        }

        private void clearRow(int row) {
            for (int need = 0; need < NEEDS; need++) {
                int index = row + need;
                if (within(index, 0, best.length - 1)) best[index] = NONE;
            }
        }

        private void offer(int row, int need, int worth) {
            int index = row + need;
            if (within(index, 0, best.length - 1) && best[index] < worth) best[index] = worth;
        }

        private boolean isAllowed(int odd, int pair, int hour, int first, int second) {
            return told.mayDo(0, pair, hour, first) && told.mayDo(1, pair, hour, second)
                    && told.keepsTreaty(odd, pair, first, second);
        }

        private int madeBy(int pair, int first, int second) {
            return told.breadMade(0, pair, first) + told.breadMade(1, pair, second);
        }

        private int worthOf(int first, int second) {
            return told.worthOf(first) + told.worthOf(second);
        }

        /** Goes along the first PLAN to a place: the BREAD made till then. */
        int follow(int odd, int need, int lastPair, int lastHour) {
            int made = 0;
            for (int pair = 0; pair <= lastPair; pair++) {
                int hours = pair == lastPair ? lastHour + 1 : told.hours;
                for (int hour = 0; hour < hours; hour++) {
                    choose(odd, pair, hour, Math.max(need - made, 0));
                    made += madeBy(pair, one, other);
                }
            }
            return made;
        }

        private void choose(int odd, int pair, int hour, int need) {
            int row = rowOf(odd, pair, hour), due = bestFrom(row, need);
            for (int first = 0; first <= REST; first++) {
                for (int second = 0; second <= REST; second++) {
                    if (!isAllowed(odd, pair, hour, first, second)) continue;
                    int rest = bestFrom(row + NEEDS, need - madeBy(pair, first, second));
                    if (rest == NONE || rest + worthOf(first, second) != due) continue;
                    one = first;
                    other = second;
                    return;
                }
            }
        }
    }

    /** NEWS over the pass: what VALLEY 1 is to do for the CLASSES that VALLEY 0 does. */
    private static final class Messages {
        /** For each CLASS that VALLEY 1 may be doing, the fewest messages till then. */
        private final int[] fewest = new int[CLASSES];

        private static int classIn(int classes, int hour) {
            return classes >> 2 * hour & 3;
        }

        int toBeAlike(int classes, int m, int l) {
            int sent = 0, doing = 0;
            for (int hour = 0; hour < m; hour++) {
                int wanted = classIn(classes, hour);
                if (wanted == doing) continue;
                if (hour < l) return NONE;
                doing = wanted;
                sent++;
            }
            return sent;
        }

        int toBeNeverAlike(int classes, int m, int l) {
            for (int c = 0; c < CLASSES; c++) fewest[c] = c == 0 ? 0 : TOO_MUCH;
            for (int hour = 0; hour < m; hour++) {
                int changed = hour < l ? TOO_MUCH : leastOfAll() + 1;
                for (int c = 0; c < CLASSES; c++) {
                    boolean isAlike = c == classIn(classes, hour);
                    fewest[c] = isAlike ? TOO_MUCH : Math.min(fewest[c], changed);
                }
            }
            int least = leastOfAll();
            return least < TOO_MUCH ? least : NONE;
        }

        private int leastOfAll() {
            int least = TOO_MUCH;
            for (int c = 0; c < CLASSES; c++) least = Math.min(least, fewest[c]);
            return least;
        }
    }

    /** ANEW: who of VALLEY 1 each of VALLEY 0 is to be paired with. */
    private static final class Partners {
        private static final int SETS = 1 << MOST_PAIRS;

        private final int[] harms = new int[MOST_PAIRS * MOST_PAIRS];
        /** For each set of those of VALLEY 1 who are taken by the first of VALLEY 0: the least HARM of the others. */
        private final int[] least = new int[SETS];

        int changeHarm(int one, int other, int v) {
            int index = one * MOST_PAIRS + other;
            if (!within(index, 0, harms.length - 1)) return 0;
            int was = harms[index];
            harms[index] = v;
            return was;
        }

        /** The least HARM of all; one is paired with the told other, unless they are NONE. */
        int leastHarm(int pairs, int one, int other) {
            int all = (1 << pairs) - 1;
            for (int taken = Math.min(all, SETS - 1); taken >= 0; taken--) {
                int row = Integer.bitCount(taken);
                int best = taken == all ? 0 : TOO_MUCH;
                for (int with = 0; with < pairs; with++) {
                    boolean isTold = row == one, isToldWith = with == other;
                    if (isTold == isToldWith) best = Math.min(best, leastWith(taken, row, with));
                }
                least[taken] = best;
            }
            return least[0];
        }

        /** The least HARM from a row on, if it is paired so; too much if that one is taken. */
        private int leastWith(int taken, int row, int with) {
            int index = row * MOST_PAIRS + with, then = taken | 1 << with;
            if (then == taken || !within(then, 0, SETS - 1)) return TOO_MUCH;
            if (!within(index, 0, harms.length - 1)) return TOO_MUCH;
            return Math.min(harms[index] + least[then], TOO_MUCH);
        }

        int partnerOf(int pairs, int i) {
            leastHarm(pairs, NONE, NONE);
            int taken = 0, partner = NONE;
            for (int row = 0; row <= i; row++) {
                partner = firstBest(pairs, taken, row);
                taken |= 1 << partner;
            }
            return partner;
        }

        private int firstBest(int pairs, int taken, int row) {
            for (int with = 0; with < pairs; with++) {
                boolean isKnown = within(taken, 0, SETS - 1);
                if (isKnown && leastWith(taken, row, with) == least[taken]) return with;
            }
            return 0;
        }
    }

    /** FOURS: which PAIRS marry. */
    private static final class Marriages {
        private static final int SETS = 1 << MOST_PAIRS;
        /** A sum and how many there are in one number: three FOURS at the most stay below it. */
        private static final int SUM = 4;

        private final int[] likings = new int[VALLEYS * MOST_PAIRS * MOST_PAIRS];
        /** For each set of PAIRS who may marry: the greatest sum, then the most FOURS. */
        private final int[] greatest = new int[SETS];

        private static int indexOf(int valley, int one, int other) {
            return (valley * MOST_PAIRS + Math.min(one, other)) * MOST_PAIRS + Math.max(one, other);
        }

        int changeLiking(int valley, int one, int other, int v) {
            int index = indexOf(valley, one, other);
            if (!within(index, 0, likings.length - 1)) return 0;
            int was = likings[index];
            likings[index] = v;
            return was;
        }

        int greatestSum(int pairs) {
            return greatestOf(pairs) / SUM;
        }

        int mostFours(int pairs) {
            return greatestOf(pairs) % SUM;
        }

        private int greatestOf(int pairs) {
            int all = Math.min(1 << pairs, SETS) - 1;
            greatest[0] = 0;
            for (int set = 1; set <= all; set++) {
                greatest[set] = greatestOfSet(set, pairs);
            }
            return greatestKnown(all);
        }

        private int greatestKnown(int set) {
            return within(set, 0, SETS - 1) ? greatest[set] : 0;
        }

        /** The first of the set stays alone, or marries one of the others. */
        private int greatestOfSet(int set, int pairs) {
            int others = set & set - 1, first = Integer.bitCount((set & -set) - 1);
            int best = greatestKnown(others);
            for (int other = 0; other < pairs; other++) {
                int left = others & ~(1 << other);
                if (left != others) best = Math.max(best, greatestKnown(left) + valueOf(first, other));
            }
            return best;
        }

        private int valueOf(int one, int other) {
            int in0 = indexOf(0, one, other), in1 = indexOf(1, one, other);
            boolean isKnown = within(in0, 0, likings.length - 1) && within(in1, 0, likings.length - 1);
            return isKnown ? Math.min(likings[in0], likings[in1]) * SUM + 1 : 1;
        }
    }

    /** THE RECORD and the SLIPS that tell it. A DAY counts turned behind an odd number of SLIPS. */
    private static final class Rows {
        /** A cost and its SLIPS in one number: fewer SLIPS than rows stay below it. */
        private static final int COST = 64;

        private int length;
        private final boolean[] alike = new boolean[MOST_ROWS];
        /** For each DAY, as it is and turned: the least cost from it on, then the fewest SLIPS behind it. */
        private final int[] least = new int[2 * (MOST_ROWS + 1)];

        void append(boolean isAlike) {
            if (length < 0 || length >= MOST_ROWS) return;
            alike[length] = isAlike;
            length++;
        }

        int leastCost(int a, int b) {
            return reckon(a, b) / COST;
        }

        int fewestSlips(int a, int b) {
            return reckon(a, b) % COST;
        }

        int firstSlip(int a, int b) {
            int total = reckon(a, b), before = 0, latest = NONE;
            for (int day = 1; day < length; day++) {
                before += costOf(day - 1, 0, b);
                if (before + slipTo(day, 1, a) == total) latest = day;
            }
            return latest;
        }

        private int reckon(int a, int b) {
            Arrays.fill(least, 0);
            for (int day = length - 1; day >= 0; day--) {
                for (int turned = 0; turned < 2; turned++) {
                    int then = Math.min(leastFrom(day + 1, turned), slipTo(day + 1, 1 - turned, a));
                    int index = 2 * day + turned;
                    if (within(index, 0, least.length - 1)) least[index] = costOf(day, turned, b) + then;
                }
            }
            return leastFrom(0, 0);
        }

        private int leastFrom(int day, int turned) {
            int index = 2 * day + turned;
            return within(index, 0, least.length - 1) ? least[index] : 0;
        }

        private int slipTo(int day, int turned, int a) {
            return a * COST + 1 + leastFrom(day, turned);
        }

        private int costOf(int day, int turned, int b) {
            boolean countsAsEven = (day + turned) % 2 == 0;
            boolean isAlike = day >= 0 && day < length && day < MOST_ROWS && alike[day];
            return isAlike == countsAsEven ? 0 : b * COST;
        }
    }
}
