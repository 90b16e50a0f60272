import java.util.Arrays;

/** Half a size: shoes of some makes, two feet, a town's feet; the document is ../shared/DOC.md. */
public final class HalfASize {
    public static final int NONE = -1, BAD = -2, STATE = -3, FULL = -4;
    public static final long NO = -4611686018427387904L;

    private static final int NOTHING = -11, OUTSIDE = -12, OTHER_SORT = -13, BELOW_ZERO = -14;
    private static final int NONE_SUCH = -100, NO_SUCH_SHOE = -1000, NO_SUCH_WHAT = -100000;

    private static final int FEET = 100, MAKES = 5, SIZES = 20, ALL_SIZES = 0xFFFFF;
    private static final int TEXTS = 6, TAPE = 160, SHEETS = 4, CELLS = 40;
    private static final int MOST_GOES = 20, MOST_SEEDS = 20, MOST_ROWS = 20;
    // Of twenty sizes there are that many sets of three, and fewer of less.
    private static final int MOST_SETS = 1140;
    private static final int GREATEST_FOOT = 99, GREATEST_SWELLING = 20, GREATEST_RUB = 99, GREATEST_PRICE = 99;
    private static final int MOST_PEOPLE = 9, GREATEST_NUMBER = 9, GREATEST_RUN = 9, RUNS = 19;
    // Above all measures by which things are chosen.
    private static final int ABOVE_ALL = 1000000;

    // Least and greatest of what set() sets, by its what.
    private static final int[] LOW = {0, 0, 0, 0, 0, -9, 0};
    private static final int[] HIGH = {99, 99, 23, 9, 9, 9, ALL_SIZES};

    private static final int KINDS = 6;
    private static final int NARROW = 1, SOFT = 2, POINTED = 3, STRETCHED = 4, CLOG = 5;
    // Under which kind each kind is.
    private static final int[] UNDER = {NONE, 0, 0, NARROW, SOFT, 0};
    // By how much a shoe must be longer than the foot to say -1, 0, 1, 2 or more, four for each kind
    // (1000: never). Each kind says less and less the longer the foot is, so these bounds tell it all.
    private static final int[] BOUNDS = {
        -4, -1, 5, 9,
        -4, -1, 5, 9,
        -4, -1, 5, 9,
        -4, 5, 9, 1000,
        -4, -1, 5, 9,
        -4, -1, 9, 9,
    };

    // Tokens: the words in their order, the signs in theirs, then the rest; a number is NUMBER and its value.
    private static final String WORDS =
        "swellsrubs  price or    and   not   size  make  apart numberfoot  hour  ";
    private static final int WORD_LENGTH = 6, WORD_COUNT = 12, DIGITS = 4;
    private static final String SIGNS = "();+-*<=";
    private static final int SWELLS = 0, RUBS = 1, PRICE = 2, OR = 3, AND = 4, NOT = 5;
    private static final int FIRST_NAME = 6, NAMES = 6;
    private static final int OPEN = 12, CLOSE = 13, SEMICOLON = 14, PLUS = 15, MINUS = 16, TIMES = 17;
    private static final int LESS = 18, SAME = 19, FAULTY = 20, END = 21, NEGATED = 22, NUMBER = 100;
    private static final int PARTS = 3, MOST_OPEN = 5;
    private static final String FIRST_RULE = "swells ( 12 < hour ) * 3 ; rubs apart ; price 20 + size ;";

    // Sorts of bytes on the tape.
    private static final int LETTER = 0, DIGIT = 1, BLANK = 2, OTHER = 3;

    // Levels of an expression, the loosest first.
    private static final int EITHER = 0, BOTH = 1, NEGATION = 2, SUM = 3, TERM = 4;

    private final State now = new State();
    private final State kept = new State();
    private boolean imaged;
    private final Reader reader = new Reader();
    private final Texts texts = new Texts();
    private final Sheets sheets = new Sheets();
    private final Span feet = new Span();
    private final int[] fitted = new int[FEET];
    private final Least first = new Least(), second = new Least(), third = new Least();

    public HalfASize() {
        for (int i = 0; i < FIRST_RULE.length(); i++) {
            reader.append(FIRST_RULE.charAt(i));
        }
        reader.read();
        texts.keep(reader);
    }

    // ---- feet, makes

    public int set(int what, int of, int v) {
        if (what < 0 || what >= LOW.length || v < LOW[what] || v > HIGH[what]) {
            return NONE_SUCH;
        }
        int was = told(of, what);
        if (was == NONE_SUCH) {
            return NONE_SUCH;
        }
        switch (what) {
            case 0: now.left = v; break;
            case 1: now.right = v; break;
            case 2: now.hour = v; break;
            case 3: now.having[of] = v; break;
            case 4: now.number[of] = v; break;
            case 5: now.run[of] = v; break;
            default: now.stock[of] = v; break;
        }
        return was;
    }

    public int make(int kind, int what, int stock) {
        if (kind < 0 || kind >= KINDS || stock < 0 || stock > ALL_SIZES) {
            return BAD;
        }
        if (what < 0 || what / 100 > GREATEST_NUMBER || what % 100 >= RUNS) {
            return BAD;
        }
        if (now.makes >= MAKES) {
            return FULL;
        }
        int make = now.makes;
        now.kind[make] = kind;
        now.number[make] = what / 100;
        now.run[make] = what % 100 - GREATEST_RUN;
        now.stock[make] = stock;
        now.makes = make + 1;
        return make;
    }

    public int told(int of, int what) {
        switch (what) {
            case 0: return now.left;
            case 1: return now.right;
            case 2: return now.hour;
            case 3: return isFoot(of) ? now.having[of] : NONE_SUCH;
            case 4: return now.hasMake(of) ? now.number[of] : NONE_SUCH;
            case 5: return now.hasMake(of) ? now.run[of] : NONE_SUCH;
            case 6: return now.hasMake(of) ? now.stock[of] : NONE_SUCH;
            case 7: return now.hasMake(of) ? now.kind[of] : NONE_SUCH;
            case 8: return footNow(0);
            case 9: return footNow(1);
            default: return NONE_SUCH;
        }
    }

    public int fit(int shoe, int foot) {
        if (!now.hasShoe(shoe) || foot != NONE && !isFoot(foot)) {
            return NO_SUCH_SHOE;
        }
        return foot == NONE ? now.lengthOf(shoe) : now.saysOf(shoe, foot);
    }

    // ---- texts

    public int feed(int letter) {
        if (letter < 0 || letter > 255) {
            return BAD;
        }
        if (reader.isFull()) {
            return FULL;
        }
        return reader.append(letter);
    }

    public int text() {
        if (texts.held >= TEXTS) {
            return FULL;
        }
        int fault = reader.read();
        return fault == NONE ? texts.keep(reader) : -100 - fault;
    }

    public int force(int text) {
        if (text < 0 || text >= texts.held) {
            return BAD;
        }
        int was = now.rule;
        now.rule = text;
        return was;
    }

    /** How long LEFT (side 0) or RIGHT (1) is at this hour. */
    private int footNow(int side) {
        texts.name(0, 0, 0, 0, side, now.hour);
        int swelling = within(texts.value(now.rule, SWELLS), GREATEST_SWELLING);
        return Math.min(GREATEST_FOOT, (side == 0 ? now.left : now.right) + swelling);
    }

    private int rubbing(int shoe, int side, int foot) {
        int make = shoe / SIZES;
        int apart = Math.abs(now.lengthOf(shoe) - foot);
        texts.name(shoe % SIZES, make, apart, now.number[make], side, now.hour);
        return within(texts.value(now.rule, RUBS), GREATEST_RUB);
    }

    private int priceOf(int shoe) {
        int make = shoe / SIZES;
        texts.name(shoe % SIZES, make, 0, now.number[make], 0, now.hour);
        return within(texts.value(now.rule, PRICE), GREATEST_PRICE);
    }

    // ---- finding

    public int canBe(int sheet, int what) {
        if (!Sheets.isOne(sheet) || what < 0 || what > 2) {
            return BAD;
        }
        int refusal = rowsRefusal(sheet);
        if (refusal != 0) {
            return refusal;
        }
        narrowByRows(sheet);
        if (what == 0) {
            return feet.size();
        }
        if (feet.size() == 0) {
            return NONE;
        }
        return what == 1 ? feet.least : feet.greatest;
    }

    public int fetch(int sheet, int what) {
        if (!Sheets.isOne(sheet) || what < 0 || what > 1) {
            return BAD;
        }
        int refusal = rowsRefusal(sheet);
        if (refusal != 0) {
            return refusal;
        }
        narrowByRows(sheet);
        if (feet.size() == 0) {
            return NONE;
        }
        chooseNext();
        return what == 0 || first.what == NONE ? first.what : first.measure;
    }

    public int goes(int foot) {
        return isFoot(foot) ? findFor(foot) : BAD;
    }

    public int worst(int what) {
        if (what < 0 || what > 1) {
            return BAD;
        }
        int most = NONE;
        int without = 0;
        int found = NONE;
        int alikeTill = NONE;
        for (int foot = 0; foot < FEET; foot++) {
            if (foot > alikeTill) {
                found = findFor(foot);
                // The feet that can still be were told the same all along: they have the same goes.
                alikeTill = feet.greatest;
            }
            most = Math.max(most, found);
            without += found == NONE ? 1 : 0;
        }
        return what == 0 ? most : without;
    }

    /** Why a sheet can't be read as rows of a shoe and what it said; 0: it can. */
    private int rowsRefusal(int sheet) {
        if (sheets.isMissing(sheet)) {
            return NOTHING;
        }
        int size = sheets.size[sheet];
        if (size % 2 != 0) {
            return BAD;
        }
        for (int i = 0; i + 1 < size; i += 2) {
            int said = sheets.cells[sheet][i + 1];
            if (!now.hasShoe(sheets.cells[sheet][i]) || said < -2 || said > 2) {
                return BAD;
            }
        }
        return 0;
    }

    private void narrowByRows(int sheet) {
        feet.widen();
        for (int i = 0; i + 1 < sheets.size[sheet]; i += 2) {
            feet.narrow(now, sheets.cells[sheet][i], sheets.cells[sheet][i + 1]);
        }
    }

    /** The first of those shoes becomes FETCH, and how many it says the same of at most. */
    private void chooseNext() {
        first.clear();
        for (int shoe = 0; shoe < now.shoes(); shoe++) {
            if (now.stocks(shoe)) {
                first.offer(shoe, feet.mostAlike(now, shoe));
            }
        }
    }

    /** The goes of a foot; the feet are then those that can still be. */
    private int findFor(int foot) {
        feet.widen();
        for (int n = 1; n <= MOST_GOES; n++) {
            if (!anyFits()) {
                return NONE;
            }
            chooseNext();
            int before = feet.size();
            int said = now.saysOf(first.what, foot);
            feet.narrow(now, first.what, said);
            if (said == 0) {
                return n;
            }
            if (feet.size() == before) {
                // The same shoe would be fetched for ever.
                return NONE;
            }
        }
        return NONE;
    }

    private boolean anyFits() {
        for (int shoe = 0; shoe < now.shoes(); shoe++) {
            if (now.stocks(shoe) && feet.meets(now.leastFitted(shoe), now.greatestFitted(shoe))) {
                return true;
            }
        }
        return false;
    }

    // ---- pairs

    public int pair(int what) {
        if (what < 0 || what > 5) {
            return NO_SUCH_WHAT;
        }
        tryAllOn();
        if (first.what == NONE) {
            return what == 5 ? 0 : NONE;
        }
        switch (what) {
            case 0: return first.what;
            case 1: return first.measure;
            case 2: return second.what;
            case 3: return third.what;
            case 4: return second.measure + third.measure;
            default: return worth();
        }
    }

    /** First becomes the pair, second the one for the left foot alone, third the one for the right. */
    private void tryAllOn() {
        first.clear();
        second.clear();
        third.clear();
        int left = footNow(0);
        int right = footNow(1);
        for (int shoe = 0; shoe < now.shoes(); shoe++) {
            if (now.stocks(shoe)) {
                int onLeft = rubbing(shoe, 0, left);
                int onRight = rubbing(shoe, 1, right);
                first.offer(shoe, onLeft + onRight);
                second.offer(shoe, onLeft);
                third.offer(shoe, onRight);
            }
        }
    }

    private int worth() {
        int rubs = first.measure - second.measure - third.measure;
        int both = priceOf(second.what) + priceOf(third.what);
        return rubs + priceOf(first.what) - both / 2;
    }

    // ---- the town

    public int served(int make) {
        if (make != NONE && !now.hasMake(make)) {
            return BAD;
        }
        if (make == NONE) {
            markFitted(0, now.shoes());
        } else {
            markFitted(make * SIZES, (make + 1) * SIZES);
        }
        int served = 0;
        for (int foot = 0; foot < FEET; foot++) {
            served += fitted[foot] * now.having[foot];
        }
        return served;
    }

    public int order(int make, int n, int what) {
        if (!now.hasMake(make) || n < 0 || n > 3 || what < 0 || what > 1) {
            return BAD;
        }
        first.clear();
        int set = (1 << n) - 1;
        for (int i = 0; i < MOST_SETS && set <= ALL_SIZES; i++) {
            first.offer(set, -servedBySet(make, set));
            set = nextSet(set);
        }
        return what == 0 ? first.what : -first.measure;
    }

    public int missing(int what) {
        if (what < 0 || what > 1) {
            return BAD;
        }
        markFitted(0, now.shoes());
        first.clear();
        int missing = 0;
        for (int foot = 0; foot < FEET; foot++) {
            if (fitted[foot] == 0 && now.having[foot] > 0) {
                missing += now.having[foot];
                first.offer(foot, -now.having[foot]);
            }
        }
        return what == 0 ? missing : first.what;
    }

    public int lies(int make) {
        if (!now.hasMake(make)) {
            return BAD;
        }
        int lying = 0;
        for (int size = 0; size < SIZES; size++) {
            int shoe = make * SIZES + size;
            if (now.stocks(shoe) && now.peopleOf(now.leastFitted(shoe), now.greatestFitted(shoe)) == 0) {
                lying |= 1 << size;
            }
        }
        return lying;
    }

    /** Fitted becomes 1 for each foot that a stocked shoe, from one on and below another, fits. */
    private void markFitted(int from, int to) {
        Arrays.fill(fitted, 0);
        for (int shoe = from; shoe < to; shoe++) {
            if (now.stocks(shoe)) {
                int greatest = now.greatestFitted(shoe);
                for (int foot = now.leastFitted(shoe); foot <= greatest; foot++) {
                    fitted[foot] = 1;
                }
            }
        }
    }

    /**
     * A smaller size fits no longer foot than a greater one: from the greatest size down, of the feet that a size
     * fits just those below the least that is served already are new.
     */
    private int servedBySet(int make, int set) {
        int served = 0;
        int servedFrom = FEET;
        for (int size = SIZES - 1; size >= 0; size--) {
            if ((set >> size & 1) == 1) {
                int shoe = make * SIZES + size;
                int least = now.leastFitted(shoe);
                served += now.peopleOf(least, Math.min(now.greatestFitted(shoe), servedFrom - 1));
                servedFrom = Math.min(servedFrom, least);
            }
        }
        return served;
    }

    /** The next greater bits of which as many are set; beyond all sizes, if none are. */
    private static int nextSet(int set) {
        if (set <= 0) {
            return ALL_SIZES + 1;
        }
        // The lowest bit that can go up does, and the bits below it go down as far as they can.
        int lowest = set & -set;
        int raised = set + lowest;
        return raised | ((set ^ raised) >> (2 + Integer.numberOfTrailingZeros(set)));
    }

    // ---- boxes

    public int runs(int sheet, int make, int foot, int what) {
        if (!Sheets.isOne(sheet) || !now.hasMake(make) || !isFoot(foot) || what < 0 || what > 1) {
            return BAD;
        }
        int refusal = rowsRefusal(sheet);
        if (refusal != 0) {
            return refusal;
        }
        int bits = 0;
        for (int i = 0; i < (what == 0 ? RUNS : KINDS); i++) {
            int kind = what == 0 ? now.kind[make] : i;
            int run = what == 0 ? i - GREATEST_RUN : now.run[make];
            if (rowsHold(sheet, make, foot, kind, run)) {
                bits |= 1 << i;
            }
        }
        return bits;
    }

    /** Whether a make's rows would be so of a foot, were it of this kind and did it run so. */
    private boolean rowsHold(int sheet, int make, int foot, int kind, int run) {
        int number = now.number[make];
        for (int i = 0; i + 1 < sheets.size[sheet]; i += 2) {
            int shoe = sheets.cells[sheet][i];
            if (shoe / SIZES == make) {
                int over = Kinds.lengthOf(kind, number, run, shoe % SIZES) - foot;
                if (Kinds.says(kind, number, over) != sheets.cells[sheet][i + 1]) {
                    return false;
                }
            }
        }
        return true;
    }

    public int film(int sheet, int foot, int n) {
        if (!Sheets.isOne(sheet) || !isFoot(foot) || n < 0 || n > MOST_ROWS) {
            return BAD;
        }
        int rows = Math.min(n, now.stocked());
        sheets.become(sheet, 0, 2 * rows);
        int row = 0;
        for (int shoe = 0; shoe < now.shoes() && row < rows; shoe++) {
            if (now.stocks(shoe)) {
                sheets.put(sheet, 2 * row, shoe);
                sheets.put(sheet, 2 * row + 1, now.saysOf(shoe, foot));
                row++;
            }
        }
        return rows;
    }

    public int drawn(int seed) {
        markFitted(0, now.shoes());
        return draw(seed, true);
    }

    public long chance(int seed, int n, int part) {
        if (n < 1 || n > MOST_SEEDS || part < 0 || part > 1) {
            return NO;
        }
        markFitted(0, now.shoes());
        int well = 0;
        for (int i = 0; i < n; i++) {
            well += 2 * draw(seed + i, true) >= draw(seed + i, false) ? 1 : 0;
        }
        int divisor = commonDivisor(well, n);
        return part == 0 ? well / divisor : n / divisor;
    }

    /** How many a drawn town has, or how many of them have a foot that is fitted. */
    private int draw(int seed, boolean fittedOnes) {
        int people = 0;
        int z = seed;
        for (int foot = 0; foot < FEET; foot++) {
            z = z * 1103515245 + 12345;
            people += (z >>> 9) % 10 * (fittedOnes ? fitted[foot] : 1);
        }
        return people;
    }

    /** The greatest number up to n by which both can be divided. */
    private static int commonDivisor(int part, int n) {
        for (int divisor = n; divisor > 1; divisor--) {
            if (part % divisor == 0 && n % divisor == 0) {
                return divisor;
            }
        }
        return 1;
    }

    public int image() {
        kept.takeOver(now);
        imaged = true;
        return now.makes;
    }

    public int back() {
        if (!imaged) {
            return STATE;
        }
        now.takeOver(kept);
        return now.makes;
    }

    public int count(int what) {
        switch (what) {
            case 0: return now.makes;
            case 1: return now.stocked();
            case 2: return now.peopleOf(0, GREATEST_FOOT);
            case 3: return texts.held;
            case 4: return reader.taped;
            case 5: return now.rule;
            default: return BAD;
        }
    }

    // ---- the host

    public int sheet(int sheet, int sort, int n) {
        if (!Sheets.isOne(sheet) || sort < NONE || sort > 2) {
            return BAD;
        }
        if (sort == NONE) {
            sheets.become(sheet, NONE, 0);
            return 1;
        }
        if (n > CELLS) {
            return BAD;
        }
        if (n < 0) {
            return BELOW_ZERO;
        }
        sheets.become(sheet, sort, n);
        return 1;
    }

    public int cell(int sheet, int i, int v) {
        if (!Sheets.isOne(sheet)) {
            return BAD;
        }
        if (sheets.isMissing(sheet)) {
            return NOTHING;
        }
        if (i < 0 || i >= sheets.size[sheet]) {
            return OUTSIDE;
        }
        sheets.put(sheet, i, v);
        return 1;
    }

    public int copy(int sheet, int i, int other, int j, int n) {
        if (!Sheets.isOne(sheet) || !Sheets.isOne(other)) {
            return BAD;
        }
        if (sheets.isMissing(sheet) || sheets.isMissing(other)) {
            return NOTHING;
        }
        if (sheets.sort[sheet] != sheets.sort[other]) {
            return OTHER_SORT;
        }
        if (i < 0 || j < 0 || n < 0 || n > sheets.size[sheet] - i || n > sheets.size[other] - j) {
            return OUTSIDE;
        }
        System.arraycopy(sheets.cells[sheet], i, sheets.cells[other], j, n);
        return n;
    }

    public int town(int sheet, int sort, int from, int n) {
        if (!Sheets.isOne(sheet) || sort < 0 || sort > 2 || n < 0 || n > MOST_ROWS) {
            return BAD;
        }
        if (sheets.isMissing(sheet)) {
            // What is missing is of no other sort.
            return NOTHING;
        }
        if (sheets.sort[sheet] != sort) {
            return OTHER_SORT;
        }
        int became = 0;
        for (int row = 0; row < n; row++) {
            if (from < 0 || from >= sheets.size[sheet] - 2 * row - 1) {
                return OUTSIDE;
            }
            int foot = sheets.cells[sheet][from + 2 * row];
            int having = sheets.cells[sheet][from + 2 * row + 1];
            if (isFoot(foot) && having >= 0 && having <= MOST_PEOPLE) {
                now.having[foot] = having;
                became++;
            }
        }
        return became;
    }

    public int taken(int make, int k) {
        if (k < 0 || k >= KINDS) {
            return BAD;
        }
        if (!now.hasMake(make)) {
            return NOTHING;
        }
        return Kinds.isUnder(now.kind[make], k) ? now.number[make] : OTHER_SORT;
    }

    private static boolean isFoot(int foot) {
        return foot >= 0 && foot < FEET;
    }

    private static int within(int value, int greatest) {
        return Math.max(0, Math.min(greatest, value));
    }

    /** What the kinds of makes tell of their shoes. */
    private static final class Kinds {
        static int lengthOf(int kind, int number, int run, int size) {
            switch (kind) {
                case NARROW: return 5 * size + run - number;
                case POINTED: return 5 * size + run - number - 3;
                case STRETCHED: return 5 * size + run + 2;
                case CLOG: return 10 * (size / 2) + run;
                default: return 5 * size + run;
            }
        }

        /** How much longer a shoe seems than it is. */
        static int giving(int kind, int number) {
            return kind == SOFT || kind == STRETCHED ? number / 3 : 0;
        }

        static int says(int kind, int number, int over) {
            int said = -2;
            for (int answer = -1; answer <= 2; answer++) {
                if (over + giving(kind, number) >= bound(kind, answer)) {
                    said = answer;
                }
            }
            return said;
        }

        private static int bound(int kind, int answer) {
            return BOUNDS[4 * kind + answer + 1];
        }

        /** The greatest foot of which a shoe that seems so long says this or more; -1: there is none. */
        static int reach(int kind, int seeming, int answer) {
            if (answer <= -2) {
                return GREATEST_FOOT;
            }
            if (answer > 2) {
                return -1;
            }
            return Math.max(-1, Math.min(GREATEST_FOOT, seeming - bound(kind, answer)));
        }

        static boolean isUnder(int kind, int other) {
            int above = kind;
            for (int i = 0; i < KINDS && above != NONE; i++) {
                if (above == other) {
                    return true;
                }
                above = UNDER[above];
            }
            return false;
        }
    }

    /** All that an image keeps, and what can be told from that alone. */
    private static final class State {
        int left = 40;
        int right = 40;
        int hour = 9;
        int rule;
        int makes;
        final int[] having = new int[FEET];
        final int[] kind = new int[MAKES];
        final int[] number = new int[MAKES];
        final int[] run = new int[MAKES];
        final int[] stock = new int[MAKES];

        void takeOver(State other) {
            left = other.left;
            right = other.right;
            hour = other.hour;
            rule = other.rule;
            makes = other.makes;
            System.arraycopy(other.having, 0, having, 0, FEET);
            System.arraycopy(other.kind, 0, kind, 0, MAKES);
            System.arraycopy(other.number, 0, number, 0, MAKES);
            System.arraycopy(other.run, 0, run, 0, MAKES);
            System.arraycopy(other.stock, 0, stock, 0, MAKES);
        }

        boolean hasMake(int make) {
            return make >= 0 && make < makes;
        }

        /** How many shoes there would be, were all sizes in stock. */
        int shoes() {
            return makes * SIZES;
        }

        boolean hasShoe(int shoe) {
            return shoe >= 0 && shoe < shoes();
        }

        boolean stocks(int shoe) {
            return hasShoe(shoe) && (stock[shoe / SIZES] >> shoe % SIZES & 1) == 1;
        }

        int stocked() {
            int stocked = 0;
            for (int make = 0; make < makes; make++) {
                stocked += Integer.bitCount(stock[make]);
            }
            return stocked;
        }

        int lengthOf(int shoe) {
            int make = shoe / SIZES;
            return Kinds.lengthOf(kind[make], number[make], run[make], shoe % SIZES);
        }

        int saysOf(int shoe, int foot) {
            int make = shoe / SIZES;
            return Kinds.says(kind[make], number[make], lengthOf(shoe) - foot);
        }

        /** How long a shoe seems to a foot in it. */
        int seeming(int shoe) {
            int make = shoe / SIZES;
            return lengthOf(shoe) + Kinds.giving(kind[make], number[make]);
        }

        int reach(int shoe, int answer) {
            return Kinds.reach(kind[shoe / SIZES], seeming(shoe), answer);
        }

        int leastFitted(int shoe) {
            return reach(shoe, 1) + 1;
        }

        /** Below the least that is fitted, if there is none. */
        int greatestFitted(int shoe) {
            return reach(shoe, 0);
        }

        int peopleOf(int least, int greatest) {
            int people = 0;
            for (int foot = Math.max(0, least); foot <= greatest && foot < FEET; foot++) {
                people += having[foot];
            }
            return people;
        }
    }

    /** Feet that can be: as every answer of a shoe is of feet in one row, so are the feet of many answers. */
    private static final class Span {
        int least;
        int greatest;

        void widen() {
            least = 0;
            greatest = GREATEST_FOOT;
        }

        int size() {
            return Math.max(0, greatest - least + 1);
        }

        void narrow(State state, int shoe, int said) {
            least = Math.max(least, state.reach(shoe, said + 1) + 1);
            greatest = Math.min(greatest, state.reach(shoe, said));
        }

        boolean meets(int from, int to) {
            return Math.max(least, from) <= Math.min(greatest, to);
        }

        /** Of how many feet a shoe says what it says of most. */
        int mostAlike(State state, int shoe) {
            int kind = state.kind[shoe / SIZES];
            int seeming = state.seeming(shoe);
            int most = 0;
            int counted = least - 1;
            for (int answer = 2; answer >= -2; answer--) {
                int till = Math.min(greatest, Kinds.reach(kind, seeming, answer));
                most = Math.max(most, till - counted);
                counted = Math.max(counted, till);
            }
            return most;
        }
    }

    /** The first thing offered that has the least measure. */
    private static final class Least {
        int what;
        int measure;

        void clear() {
            what = NONE;
            measure = ABOVE_ALL;
        }

        void offer(int other, int itsMeasure) {
            if (itsMeasure < measure) {
                what = other;
                measure = itsMeasure;
            }
        }
    }

    /** Rows of numbers, all as ints; what a sort has no room for is cut as it is put in. */
    private static final class Sheets {
        final int[] sort = {NONE, NONE, NONE, NONE};
        final int[] size = new int[SHEETS];
        final int[][] cells = new int[SHEETS][CELLS];

        static boolean isOne(int sheet) {
            return sheet >= 0 && sheet < SHEETS;
        }

        boolean isMissing(int sheet) {
            return sort[sheet] == NONE;
        }

        void become(int sheet, int itsSort, int itsSize) {
            sort[sheet] = itsSort;
            size[sheet] = itsSize;
            Arrays.fill(cells[sheet], 0);
        }

        void put(int sheet, int i, int v) {
            switch (sort[sheet]) {
                case 0: cells[sheet][i] = (byte) v; break;
                case 1: cells[sheet][i] = (short) v; break;
                default: cells[sheet][i] = v; break;
            }
        }
    }

    /** The texts as steps of a machine with a stack: what is worked on stands ahead of what works on it. */
    private static final class Texts {
        int held;
        final int[] steps = new int[TEXTS * TAPE];
        final int[] starts = new int[TEXTS * (PARTS + 1)];
        final int[] names = new int[NAMES];
        final int[] stack = new int[TAPE];

        int keep(Reader reader) {
            int text = held;
            System.arraycopy(reader.steps, 0, steps, text * TAPE, TAPE);
            System.arraycopy(reader.starts, 0, starts, text * (PARTS + 1), PARTS + 1);
            held = text + 1;
            return text;
        }

        void name(int size, int make, int apart, int number, int foot, int hour) {
            names[0] = size;
            names[1] = make;
            names[2] = apart;
            names[3] = number;
            names[4] = foot;
            names[5] = hour;
        }

        int value(int text, int part) {
            int start = text * (PARTS + 1) + part;
            int height = 0;
            for (int i = starts[start]; i < starts[start + 1]; i++) {
                height = step(steps[text * TAPE + i], height);
            }
            return height > 0 ? stack[0] : 0;
        }

        /** How high the stack is after a step. */
        private int step(int step, int height) {
            if (step >= NUMBER || step >= FIRST_NAME && step < FIRST_NAME + NAMES) {
                if (height >= stack.length) {
                    return height;
                }
                stack[height] = step >= NUMBER ? step - NUMBER : names[step - FIRST_NAME];
                return height + 1;
            }
            if (height > 0 && step == NOT) {
                stack[height - 1] = stack[height - 1] == 0 ? 1 : 0;
            } else if (height > 0 && step == NEGATED) {
                stack[height - 1] = -stack[height - 1];
            } else if (height > 1) {
                stack[height - 2] = joined(step, stack[height - 2], stack[height - 1]);
                return height - 1;
            }
            return height;
        }

        private static int joined(int sign, int a, int b) {
            switch (sign) {
                case OR: return a != 0 || b != 0 ? 1 : 0;
                case AND: return a != 0 && b != 0 ? 1 : 0;
                case LESS: return a < b ? 1 : 0;
                case SAME: return a == b ? 1 : 0;
                case PLUS: return a + b;
                case MINUS: return a - b;
                default: return a * b;
            }
        }
    }

    /** The tape, and how it is read as a text. */
    private static final class Reader {
        final int[] tape = new int[TAPE];
        int taped;
        final int[] tokens = new int[TAPE + 1];
        final int[] places = new int[TAPE + 1];
        int here;
        final int[] steps = new int[TAPE];
        final int[] starts = new int[PARTS + 1];
        int written;

        boolean isFull() {
            return taped >= TAPE;
        }

        int append(int letter) {
            if (!isFull()) {
                tape[taped] = letter;
                taped++;
            }
            return taped;
        }

        /** The place of the tape's fault, or NONE; the tape is empty then. */
        int read() {
            split();
            here = 0;
            written = 0;
            boolean good = true;
            for (int part = 0; part < PARTS && good; part++) {
                starts[part] = written;
                good = pass(part) && expression(EITHER, 0) && pass(SEMICOLON);
            }
            starts[PARTS] = written;
            taped = 0;
            return good && tokens[here] == END ? NONE : places[here];
        }

        private void split() {
            int n = 0;
            for (int at = 0; at < taped; at++) {
                int sort = sortOf(tape[at]);
                boolean goesOn = at > 0 && sort != OTHER && sort == sortOf(tape[at - 1]);
                if (sort != BLANK && !goesOn) {
                    tokens[n] = tokenAt(at, sort);
                    places[n] = at;
                    n++;
                }
            }
            tokens[n] = END;
            places[n] = taped;
        }

        private static int sortOf(int letter) {
            if (letter >= 'a' && letter <= 'z') {
                return LETTER;
            }
            if (letter >= '0' && letter <= '9') {
                return DIGIT;
            }
            return letter == ' ' || letter == '\n' ? BLANK : OTHER;
        }

        private int tokenAt(int at, int sort) {
            if (sort == OTHER) {
                int sign = SIGNS.indexOf((char) tape[at]);
                return sign < 0 ? FAULTY : OPEN + sign;
            }
            int end = at;
            while (end < taped && sortOf(tape[end]) == sort) {
                end++;
            }
            return sort == DIGIT ? numberOf(at, end) : wordOf(at, end);
        }

        private int numberOf(int from, int to) {
            if (to - from > DIGITS) {
                return FAULTY;
            }
            int number = 0;
            for (int at = from; at < to; at++) {
                number = 10 * number + tape[at] - '0';
            }
            return NUMBER + number;
        }

        private int wordOf(int from, int to) {
            for (int word = 0; word < WORD_COUNT && to - from <= WORD_LENGTH; word++) {
                boolean same = true;
                for (int i = 0; i < WORD_LENGTH; i++) {
                    int letter = from + i < to ? tape[from + i] : ' ';
                    same = same && letter == WORDS.charAt(word * WORD_LENGTH + i);
                }
                if (same) {
                    return word;
                }
            }
            return FAULTY;
        }

        private boolean pass(int token) {
            if (tokens[here] != token) {
                return false;
            }
            here++;
            return true;
        }

        private void write(int step) {
            if (written < TAPE) {
                steps[written] = step;
                written++;
            }
        }

        private static int levelOf(int token) {
            switch (token) {
                case OR: return EITHER;
                case AND: return BOTH;
                case LESS: case SAME: return NEGATION;
                case PLUS: case MINUS: return SUM;
                case TIMES: return TERM;
                default: return NONE;
            }
        }

        /** Where this answers false, the token that can't stand there is the one that is read next. */
        private boolean expression(int level, int open) {
            if (level == NEGATION && tokens[here] == NOT) {
                return prefixed(NOT, BOTH, open);
            }
            if (!operand(level, open)) {
                return false;
            }
            int most = level == NEGATION ? 1 : TAPE;
            for (int n = 0; n < most && levelOf(tokens[here]) == level; n++) {
                int sign = tokens[here];
                here++;
                if (!operand(level, open)) {
                    return false;
                }
                write(sign);
            }
            return true;
        }

        /** What stands beside the signs of a level. */
        private boolean operand(int level, int open) {
            return level >= TERM ? one(open) : expression(level + 1, open);
        }

        private boolean one(int open) {
            int token = tokens[here];
            if (token >= NUMBER || token >= FIRST_NAME && token < FIRST_NAME + NAMES) {
                here++;
                write(token);
                return true;
            }
            if (token == MINUS) {
                return prefixed(NEGATED, TERM, open);
            }
            if (token != OPEN || open >= MOST_OPEN) {
                return false;
            }
            here++;
            return expression(EITHER, open + 1) && pass(CLOSE);
        }

        private boolean prefixed(int step, int level, int open) {
            if (open >= MOST_OPEN) {
                return false;
            }
            here++;
            if (!operand(level, open + 1)) {
                return false;
            }
            write(step);
            return true;
        }
    }
}
