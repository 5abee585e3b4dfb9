import java.util.NoSuchElementException;

/** A village of parcels held by twelfths, and who may come first before something passes to a stranger. */
public final class FirstComer {
    public static final int NONE = -1;

    private static final int PARCELS = 12;
    private static final int PEOPLE = 16;
    private static final int EVERYBODY = 0xFFFF;
    private static final int WHOLE = 12;
    private static final int SIDES = 4;
    private static final int MOST_DEGREE = 3;
    private static final int MOST_DAYS = 1000;
    private static final int LAST_DAY = 9999;
    private static final int MOST_PRICE = 9999;
    private static final int MOST_EACH = 800;
    private static final int MOST_YEARS = 9;
    private static final int MOST_PASSINGS = 40;
    private static final int MOST_HONEST = 6;
    private static final int MARKS = 4;

    private static final int FORMS = 3;
    private static final int FORM_GIFT = 1;

    private static final int WHO_KIN = 0;
    private static final int WHO_SHARE = 1;
    private static final int WHO_SIDE = 2;
    private static final int WHO_WATER = 3;
    private static final int WHOS = 4;

    // The facts bear the numbers that their words have in the table WORDS.
    private static final int FACT_N = 0;
    private static final int FACT_PRICE = 1;
    private static final int FACT_PAID = 2;
    private static final int FACT_KEEPS = 3;
    private static final int FACT_ESTATE = 4;
    private static final int FACT_HAS = 5;
    private static final int FACT_FORM = 6;
    private static final int FACT_NEED = 9;
    private static final int FACT_HOLDS = 10;
    private static final int FACT_OWNS = 11;
    private static final int FACT_DEGREE = 12;
    private static final int FACT_DAY = 13;
    private static final int FACTS = 14;

    private static final int MOST_SIGNS = 1000;
    private static final int MOST_WORD = 8;
    private static final int MOST_DIGITS = 4;
    private static final int MOST_WITHIN = 999;
    private static final int MOST_IN_FORCE = 12;
    private static final int MOST_MAYBES = 6;
    private static final int MOST_LINES = 18;
    private static final int MOST_NESTED = 5;
    private static final int LEVEL_JOIN = 0;
    private static final int LEVEL_TEST = 1;
    private static final int LEVEL_SUM = 2;
    private static final int LEVEL_PRODUCT = 3;
    private static final int LEVELS = 4;

    // Each word takes eight places, so that its number tells where it stands.
    private static final String WORDS = "n       price   paid    keeps   estate  has     sale    gift    swap    need    holds   owns    degree  day     kin     share   side    water   first   free    maybe   parts   on      within  when    told    heads   shares  and     or      not     ";
    private static final int KNOWN_WORDS = 31;

    private static final int WORD_PRICE = 1;
    private static final int WORD_PAID = 2;
    private static final int WORD_SALE = 6;
    private static final int WORD_KIN = 14;
    private static final int WORD_FIRST = 18;
    private static final int WORD_FREE = 19;
    private static final int WORD_MAYBE = 20;
    private static final int WORD_PARTS = 21;
    private static final int WORD_ON = 22;
    private static final int WORD_WITHIN = 23;
    private static final int WORD_WHEN = 24;
    private static final int WORD_TOLD = 25;
    private static final int WORD_HEADS = 26;
    private static final int WORD_SHARES = 27;
    private static final int WORD_AND = 28;
    private static final int WORD_OR = 29;
    private static final int WORD_NOT = 30;
    // The signs ( ) * + - ; < = are tokens by their own numbers, all of them above these.
    private static final int TOKEN_NUMBER = 32;
    private static final int TOKEN_END = 33;
    private static final int TOKEN_NOTHING = 34;

    private static final int WRONG_TOKEN = 1;
    private static final int WRONG_AGAIN = 3;
    private static final int WRONG_NUMBER = 4;
    private static final int WRONG_MANY = 5;

    // In a condition's code a number stands for itself, facts and operations stand above all numbers.
    private static final int CODE_FACT = 10000;
    private static final int CODE_OPERATION = 20000;
    private static final int CODE_NOT = 20030;
    private static final int MOST_WAITING = 64;

    // Of all 64 sets of lines with maybe, as bits of a long, those in which the i-th line is.
    private static final long[] SETS_WITH = {0xAAAAAAAAAAAAAAAAL, 0xCCCCCCCCCCCCCCCCL, 0xF0F0F0F0F0F0F0F0L, 0xFF00FF00FF00FF00L, 0xFFFF0000FFFF0000L, 0xFFFFFFFF00000000L};
    private static final long EVERY_SET = -1L;
    private static final long EMPTY_SET = 1L;

    private static final int SPAN = 13;
    private static final int MOST_ROW = 24;
    private static final int PARCEL_SETS = 4096;

    private static final int STORY_WAIVED = 16;
    private static final int STORY_TAKER = 17;
    private static final int STORY_PAID = 18;
    private static final int STORY = 19;

    private static final int CLAIM_WON = 0;
    private static final int CLAIM_MAY_NOT = 1;
    private static final int CLAIM_LATE = 2;
    private static final int CLAIM_BEHIND = 3;
    private static final int CLAIM_COIN = 4;
    private static final int CLAIM_GONE = 5;
    private static final int CLAIM_TAKEN = 6;

    private final Village village = new Village();
    private final Holdings holdings = new Holdings();
    private final Reader reader = new Reader();
    private final Deal asked = new Deal();
    private final Judge judge = new Judge(village);
    private final Ways ways = new Ways(village, holdings, judge);
    private final Mender mender = new Mender(village, holdings, judge, ways);
    private final HowFar howFar = new HowFar(village, holdings, judge);
    private final Passing[] passings = new Passing[MOST_PASSINGS];
    private final Mark[] marks = new Mark[MARKS];
    private Law inForce = new Law();
    private Law spare = new Law();
    private int passed;
    private int marksLaid;

    public FirstComer() {
        judge.law = inForce;
    }

    public boolean parcel(int parcel, int owner) {
        if (parcel < 0 || parcel >= PARCELS || !isPerson(owner) || village.isTold(parcel)) {
            return false;
        }
        village.changes++;
        village.told |= 1 << parcel;
        holdings.add(parcel, owner, WHOLE);
        return true;
    }

    public boolean part(int parcel, int from, int to, int n) {
        if (!village.isTold(parcel) || !areTwoPeople(from, to) || n < 1 || n > WHOLE) {
            return false;
        }
        if (holdings.of(parcel, from) < n) {
            return false;
        }
        village.changes++;
        holdings.move(parcel, from, to, n);
        return true;
    }

    public boolean beside(int parcel, int other, int side) {
        if (!village.areTwoTold(parcel, other) || side < 0 || side >= SIDES) {
            return false;
        }
        if ((village.sides[parcel * SIDES + side] >> other & 1) != 0) {
            return false;
        }
        village.changes++;
        village.layAt(parcel, other, side);
        village.layAt(other, parcel, (side + 2) % SIDES);
        return true;
    }

    public boolean water(int parcel, int other) {
        if (!village.areTwoTold(parcel, other) || (village.waters[parcel] >> other & 1) != 0) {
            return false;
        }
        village.changes++;
        village.waters[parcel] |= 1 << other;
        village.waters[other] |= 1 << parcel;
        return true;
    }

    public boolean kin(int a, int b, int degree) {
        if (!areTwoPeople(a, b) || degree < 0 || degree > MOST_DEGREE) {
            return false;
        }
        village.changes++;
        village.makeKin(a, b, degree);
        village.makeKin(b, a, degree);
        return true;
    }

    public boolean need(int person, boolean yes) {
        if (!isPerson(person)) {
            return false;
        }
        village.changes++;
        village.needy = withBit(village.needy, person, yes);
        return true;
    }

    public boolean care(int person, boolean yes) {
        if (!isPerson(person)) {
            return false;
        }
        village.changes++;
        village.caring = withBit(village.caring, person, yes);
        return true;
    }

    public int days(int n) {
        if (n < 0 || n > MOST_DAYS || village.now + n > LAST_DAY) {
            return NONE;
        }
        village.changes++;
        village.now += n;
        return village.now;
    }

    public int feed(long a, long b, long c) {
        reader.write(a);
        reader.write(b);
        reader.write(c);
        return reader.length;
    }

    public int law() {
        int fault = reader.read(spare);
        if (fault != 0) {
            return fault;
        }
        village.changes++;
        Law old = inForce;
        inForce = spare;
        spare = old;
        judge.law = inForce;
        return 0;
    }

    public int holds(int parcel, int person) {
        if (!village.isTold(parcel) || !isPerson(person)) {
            return NONE;
        }
        return holdings.of(parcel, person);
    }

    public int stands(int parcel, int seller, int person) {
        if (!village.isTold(parcel) || !isPerson(seller) || !isPerson(person)) {
            return NONE;
        }
        int bits = 0;
        for (int who = 0; who < WHOS; who++) {
            bits |= (village.standing(who, holdings, parcel, seller) >> person & 1) << who;
        }
        return bits;
    }

    public int pass(int parcel, int from, int to, int n, int form, int price, int paid) {
        asked.tell(parcel, from, to, n, form, price, paid);
        if (!asked.canBe(village, holdings) || passed >= MOST_PASSINGS) {
            return NONE;
        }
        village.changes++;
        if (passings[passed] == null) {
            passings[passed] = new Passing();
        }
        judge.judgeAll(holdings, asked);
        passings[passed].begin(judge, asked, village.now);
        holdings.move(parcel, from, to, n);
        passed++;
        return passed - 1;
    }

    public int would(int parcel, int from, int to, int n, int form, int price, int paid) {
        asked.tell(parcel, from, to, n, form, price, paid);
        if (!asked.canBe(village, holdings)) {
            return NONE;
        }
        judge.judgeAll(holdings, asked);
        return judge.comers;
    }

    public int look(int passing, int what) throws NoSuchElementException {
        Passing p = passingAt(passing);
        if (p == null || what < 0 || what > 11) {
            throw new NoSuchElementException();
        }
        return p.tells(what);
    }

    public int may(int passing, int person) {
        Passing p = passingAt(passing);
        if (p == null || !isPerson(person)) {
            return NONE;
        }
        return p.ranks[person];
    }

    public int order(int passing, int i) {
        Passing p = passingAt(passing);
        if (p == null || i < 0) {
            return NONE;
        }
        return p.comerAt(i);
    }

    public boolean hears(int passing, int person, int day) {
        Passing p = passingAt(passing);
        if (p == null || !isPerson(person) || day < p.day || day > village.now) {
            return false;
        }
        if (p.story[person] != NONE) {
            return false;
        }
        p.story[person] = day;
        return true;
    }

    public int till(int passing, int person) {
        Passing p = passingAt(passing);
        if (p == null || !isPerson(person) || p.ranks[person] == NONE || p.story[person] == NONE) {
            return NONE;
        }
        return p.story[person] + p.within[person];
    }

    public boolean waive(int passing, int person) {
        Passing p = passingAt(passing);
        if (p == null || !isPerson(person) || p.ranks[person] == NONE || p.isWaived(person)) {
            return false;
        }
        p.story[STORY_WAIVED] |= 1 << person;
        return true;
    }

    public boolean truly(int passing, int paid) {
        Passing p = passingAt(passing);
        if (p == null || !isPrice(paid) || p.deal.form == FORM_GIFT || p.isTaken()) {
            return false;
        }
        p.story[STORY_PAID] = paid;
        return true;
    }

    public int claim(int passing, int person, int coin) {
        Passing p = passingAt(passing);
        if (p == null || !isPerson(person) || coin < 0) {
            return NONE;
        }
        int answer = p.judgeClaim(person, coin, village.now, holdings);
        if (answer == CLAIM_WON) {
            village.changes++;
            holdings.move(p.deal.parcel, p.deal.to, person, p.deal.n);
            p.story[STORY_TAKER] = person;
        }
        return answer;
    }

    public int parted(int passing, int person) {
        Passing p = passingAt(passing);
        if (p == null || !isPerson(person) || p.ranks[person] == NONE) {
            return NONE;
        }
        return p.portion(person);
    }

    public int sly(int parcel, int owner, int stranger, int each) {
        if (!canGoRound(parcel, owner, stranger, each)) {
            return NONE;
        }
        return ways.findRow(parcel, owner, stranger, each);
    }

    public int slyRow(int parcel, int owner, int stranger, int each, int i, int what) {
        if (!canGoRound(parcel, owner, stranger, each) || what < 0 || what > 2) {
            return NONE;
        }
        int length = ways.findRow(parcel, owner, stranger, each);
        if (i < 0 || i >= length) {
            return NONE;
        }
        return ways.stepTells(length - 1 - i, what);
    }

    public int far(int stranger, int years, int each, int what) {
        if (!isPerson(stranger) || years < 1 || years > MOST_YEARS || !isEach(each) || what < 0 || what > 2) {
            return NONE;
        }
        howFar.find(stranger, years, each);
        if (what == 0) {
            return Integer.bitCount(howFar.own | howFar.best);
        }
        return what == 1 ? Integer.bitCount(howFar.best) : howFar.own | howFar.best;
    }

    public boolean honest(int parcel, int from, int to, int n, int form, int price) {
        asked.tell(parcel, from, to, n, form, price, price);
        if (!asked.isSound(village) || mender.honestOnes >= MOST_HONEST) {
            return false;
        }
        village.changes++;
        mender.addHonest(asked);
        return true;
    }

    public int mended(int parcel, int owner, int stranger, int each, int what) {
        if (!canGoRound(parcel, owner, stranger, each) || what < 0 || what > 1) {
            return NONE;
        }
        int set = mender.find(parcel, owner, stranger, each);
        if (set == NONE || what == 1) {
            return set;
        }
        return Integer.bitCount(set);
    }

    public boolean mark(int mark, boolean back) {
        if (mark < 0 || mark >= MARKS) {
            return false;
        }
        if (back) {
            return goBack(mark);
        }
        if (marks[mark] == null) {
            marks[mark] = new Mark();
        }
        marksLaid++;
        marks[mark].lay(marksLaid, village, holdings, passings, passed);
        return true;
    }

    public int count(int what) {
        switch (what) {
            case 0:
                return Integer.bitCount(village.told);
            case 1:
                return village.now;
            case 2:
                return passed;
            case 3:
                return takenOnes();
            case 4:
                return inForce.firm;
            case 5:
                return inForce.maybes;
            case 6:
                return mender.honestOnes;
            case 7:
                return reader.length;
            default:
                return NONE;
        }
    }

    private boolean goBack(int mark) {
        Mark kept = marks[mark];
        if (kept == null || kept.laid == 0) {
            return false;
        }
        village.changes++;
        kept.restore(village, holdings, passings);
        passed = kept.passed;
        for (int m = 0; m < MARKS; m++) {
            if (marks[m] != null && marks[m].laid > kept.laid) {
                marks[m].laid = 0;
            }
        }
        return true;
    }

    private int takenOnes() {
        int taken = 0;
        for (int i = 0; i < passed && i < MOST_PASSINGS; i++) {
            if (passings[i] != null && passings[i].isTaken()) {
                taken++;
            }
        }
        return taken;
    }

    private Passing passingAt(int passing) {
        return passing < 0 || passing >= passed || passing >= MOST_PASSINGS ? null : passings[passing];
    }

    private boolean canGoRound(int parcel, int owner, int stranger, int each) {
        if (!village.isTold(parcel) || !areTwoPeople(owner, stranger) || !isEach(each)) {
            return false;
        }
        return holdings.of(parcel, owner) > 0;
    }

    private static boolean isPerson(int person) {
        return person >= 0 && person < PEOPLE;
    }

    private static boolean areTwoPeople(int a, int b) {
        return isPerson(a) && isPerson(b) && a != b;
    }

    private static boolean isPrice(int price) {
        return price >= 0 && price <= MOST_PRICE;
    }

    private static boolean isEach(int each) {
        return each >= 0 && each <= MOST_EACH;
    }

    private static int withBit(int bits, int bit, boolean yes) {
        return yes ? bits | 1 << bit : bits & ~(1 << bit);
    }

    /** Who holds how many twelfths, with the sums that are asked for at every judgment. */
    private static final class Holdings {
        private final int[] twelfths = new int[PARCELS * PEOPLE];
        private final int[] holders = new int[PARCELS];
        private final int[] owned = new int[PEOPLE];
        private final int[] estates = new int[PEOPLE];

        int of(int parcel, int person) {
            return twelfths[parcel * PEOPLE + person];
        }

        void add(int parcel, int person, int n) {
            int at = parcel * PEOPLE + person;
            boolean some = twelfths[at] != 0;
            twelfths[at] += n;
            estates[person] += n;
            boolean someNow = twelfths[at] != 0;
            if (some != someNow) {
                owned[person] += someNow ? 1 : -1;
                holders[parcel] = withBit(holders[parcel], person, someNow);
            }
        }

        void move(int parcel, int from, int to, int n) {
            add(parcel, from, -n);
            add(parcel, to, n);
        }

        void copyAll(Holdings other) {
            System.arraycopy(other.twelfths, 0, twelfths, 0, PARCELS * PEOPLE);
            System.arraycopy(other.holders, 0, holders, 0, PARCELS);
            System.arraycopy(other.owned, 0, owned, 0, PEOPLE);
            System.arraycopy(other.estates, 0, estates, 0, PEOPLE);
        }

        void copyParcel(Holdings other, int parcel) {
            for (int person = 0; person < PEOPLE; person++) {
                add(parcel, person, other.of(parcel, person) - of(parcel, person));
            }
        }

        /** Those who hold some of one of these parcels, as bits. */
        int holdersOf(int parcels) {
            int bits = 0;
            for (int parcel = 0; parcel < PARCELS && parcels >> parcel != 0; parcel++) {
                if ((parcels >> parcel & 1) != 0) {
                    bits |= holders[parcel];
                }
            }
            return bits;
        }

        int sumOf(int parcels, int person) {
            int sum = 0;
            for (int parcel = 0; parcel < PARCELS; parcel++) {
                if ((parcels >> parcel & 1) != 0) {
                    sum += of(parcel, person);
                }
            }
            return sum;
        }

        /** Who holds all of a parcel. */
        int onlyHolder(int parcel) {
            int bits = holders[parcel];
            return Integer.bitCount(bits) == 1 ? Integer.numberOfTrailingZeros(bits) : NONE;
        }
    }

    /** What is so of parcels and people, but for who holds what. */
    private static final class Village {
        private final int[] sides = new int[PARCELS * SIDES];
        private final int[] besides = new int[PARCELS];
        private final int[] waters = new int[PARCELS];
        private final int[] degrees = new int[PEOPLE * PEOPLE];
        private final int[] kinfolk = new int[PEOPLE];
        private int told;
        private int needy;
        private int caring = EVERYBODY;
        private int now;
        // Goes up with all that may change an answer, so that what was searched may be told again.
        private int changes;

        boolean isTold(int parcel) {
            return parcel >= 0 && parcel < PARCELS && (told >> parcel & 1) != 0;
        }

        boolean areTwoTold(int parcel, int other) {
            return isTold(parcel) && isTold(other) && parcel != other;
        }

        void layAt(int parcel, int other, int side) {
            sides[parcel * SIDES + side] |= 1 << other;
            besides[parcel] |= 1 << other;
        }

        void makeKin(int person, int other, int degree) {
            degrees[person * PEOPLE + other] = degree;
            kinfolk[person] = withBit(kinfolk[person], other, degree != 0);
        }

        /** Those who stand so to a parcel and a seller, as bits. */
        int standing(int who, Holdings held, int parcel, int seller) {
            switch (who) {
                case WHO_KIN:
                    return kinfolk[seller];
                case WHO_SHARE:
                    return held.holders[parcel];
                case WHO_SIDE:
                    return held.holdersOf(besides[parcel]);
                case WHO_WATER:
                    return held.holdersOf(waters[parcel]);
                default:
                    return 0;
            }
        }

        /** What one who stands so counts for when twelfths are parted by shares. */
        int shareOf(int who, Holdings held, int parcel, int person) {
            switch (who) {
                case WHO_KIN:
                    return 1;
                case WHO_SHARE:
                    return held.of(parcel, person);
                case WHO_SIDE:
                    return held.sumOf(besides[parcel], person);
                case WHO_WATER:
                    return held.sumOf(waters[parcel], person);
                default:
                    return 0;
            }
        }
    }

    /** The lines of a law, each condition as code that works on a heap of numbers. */
    private static final class Law {
        private final boolean[] first = new boolean[MOST_LINES];
        private final long[] sets = new long[MOST_LINES];
        private final int[] ranks = new int[MOST_LINES];
        private final int[] who = new int[MOST_LINES];
        private final int[] forms = new int[MOST_LINES];
        private final int[] within = new int[MOST_LINES];
        private final int[] codeFrom = new int[MOST_LINES];
        private final int[] codeTill = new int[MOST_LINES];
        // Whether a line's condition asks for something of the one who is asked about.
        private final boolean[] personal = new boolean[MOST_LINES];
        private final int[] code = new int[MOST_SIGNS];
        private int codes;
        private int lines;
        private int firm;
        private int firmFirst;
        private int maybes;
        private boolean byPaid;
        private boolean byShares;

        void empty() {
            codes = 0;
            lines = 0;
            firm = 0;
            firmFirst = 0;
            maybes = 0;
            byPaid = false;
            byShares = false;
        }

        /** Begins a line; the reader has seen to it that there are not too many. */
        int addLine(boolean isFirst, boolean isMaybe) {
            int line = lines;
            first[line] = isFirst;
            forms[line] = 0;
            codeFrom[line] = codes;
            codeTill[line] = codes;
            personal[line] = false;
            ranks[line] = NONE;
            if (isMaybe) {
                sets[line] = SETS_WITH[maybes];
                maybes++;
            } else {
                sets[line] = EVERY_SET;
                firm++;
                if (isFirst) {
                    ranks[line] = firmFirst;
                    firmFirst++;
                }
            }
            lines++;
            return line;
        }

        void addCode(int item) {
            if (codes < MOST_SIGNS) {
                code[codes] = item;
                codes++;
            }
        }

        void endCondition(int line) {
            codeTill[line] = codes;
            for (int at = codeFrom[line]; at < codes; at++) {
                boolean asks = code[at] >= CODE_FACT + FACT_NEED && code[at] <= CODE_FACT + FACT_DEGREE;
                personal[line] = personal[line] || asks;
            }
        }

        boolean isFirstOn(int line, int form) {
            return first[line] && (forms[line] >> form & 1) != 0;
        }
    }

    /** The tape, and what reads it as a law. */
    private static final class Reader {
        private final byte[] tape = new byte[MOST_SIGNS];
        private int length;
        private int at;
        private int place;
        private int token;
        private int number;
        private int fault;
        private boolean priceTold;
        private boolean partsTold;
        private Law law;

        void write(long signs) {
            for (int shift = 56; shift >= 0; shift -= 8) {
                int sign = (int) (signs >>> shift) & 0xFF;
                if (length < MOST_SIGNS && (sign == 10 || sign >= 32 && sign <= 126)) {
                    tape[length] = (byte) sign;
                    length++;
                }
            }
        }

        int read(Law target) {
            law = target;
            law.empty();
            priceTold = false;
            partsTold = false;
            fault = 0;
            at = 0;
            next();
            for (int line = 0; line <= MOST_SIGNS && token != TOKEN_END; line++) {
                boolean maybe = token == WORD_MAYBE;
                if (maybe && law.maybes >= MOST_MAYBES) {
                    wrong(WRONG_MANY);
                } else if (maybe) {
                    next();
                }
                if (token == WORD_FIRST || token == WORD_FREE) {
                    readRule(maybe);
                } else if (token == WORD_PRICE && !maybe) {
                    readPrice();
                } else if (token == WORD_PARTS && !maybe) {
                    readParts();
                } else {
                    wrong(WRONG_TOKEN);
                }
            }
            length = 0;
            return fault;
        }

        /** Only the first fault counts; behind it the reader stands at the end, where no loop goes on. */
        private void wrong(int kind) {
            if (fault == 0) {
                fault = kind + 16 * place;
            }
            at = length;
            token = TOKEN_END;
        }

        private void next() {
            while (at < length && (tape[at] == 10 || tape[at] == 32)) {
                at++;
            }
            place = at;
            if (at >= length) {
                token = TOKEN_END;
            } else if (isLetter(tape[at])) {
                takeWord();
            } else if (isDigit(tape[at])) {
                takeNumber();
            } else {
                token = isSign(tape[at]) ? tape[at] : TOKEN_NOTHING;
                at++;
            }
        }

        private void takeWord() {
            while (at < length && isLetter(tape[at])) {
                at++;
            }
            token = TOKEN_NOTHING;
            for (int word = 0; word < KNOWN_WORDS && at - place <= MOST_WORD; word++) {
                if (isWord(word)) {
                    token = word;
                }
            }
        }

        private boolean isWord(int word) {
            for (int i = 0; i < MOST_WORD; i++) {
                int sign = place + i < at ? tape[place + i] : ' ';
                if (sign != WORDS.charAt(word * MOST_WORD + i)) {
                    return false;
                }
            }
            return true;
        }

        private void takeNumber() {
            number = 0;
            while (at < length && isDigit(tape[at])) {
                number = number * 10 + tape[at] - '0';
                at++;
            }
            token = at - place > MOST_DIGITS ? TOKEN_NOTHING : TOKEN_NUMBER;
        }

        private static boolean isLetter(int sign) {
            return sign >= 'a' && sign <= 'z';
        }

        private static boolean isDigit(int sign) {
            return sign >= '0' && sign <= '9';
        }

        private static boolean isSign(int sign) {
            return sign >= '(' && sign <= '+' || sign == '-' || sign >= ';' && sign <= '=';
        }

        private void want(int wanted) {
            if (token == wanted) {
                next();
            } else {
                wrong(WRONG_TOKEN);
            }
        }

        private void readPrice() {
            if (priceTold) {
                wrong(WRONG_AGAIN);
                return;
            }
            priceTold = true;
            next();
            law.byPaid = token == WORD_PAID;
            want(law.byPaid ? WORD_PAID : WORD_TOLD);
            want(';');
        }

        private void readParts() {
            if (partsTold) {
                wrong(WRONG_AGAIN);
                return;
            }
            partsTold = true;
            next();
            law.byShares = token == WORD_SHARES;
            want(law.byShares ? WORD_SHARES : WORD_HEADS);
            want(';');
        }

        private void readRule(boolean maybe) {
            if (!maybe && law.firm >= MOST_IN_FORCE) {
                wrong(WRONG_MANY);
                return;
            }
            boolean first = token == WORD_FIRST;
            int line = law.addLine(first, maybe);
            next();
            if (first) {
                readWho(line);
                want(WORD_ON);
                readForms(line);
                want(WORD_WITHIN);
                readWithin(line);
            }
            if (!first || token == WORD_WHEN) {
                want(WORD_WHEN);
                readLevel(LEVEL_JOIN, 0);
                law.endCondition(line);
            }
            want(';');
        }

        private void readWho(int line) {
            int who = token - WORD_KIN;
            if (who < 0 || who >= WHOS) {
                wrong(WRONG_TOKEN);
                return;
            }
            law.who[line] = who;
            next();
        }

        private void readForms(int line) {
            int form = token - WORD_SALE;
            if (form < 0 || form >= FORMS) {
                wrong(WRONG_TOKEN);
            }
            for (int told = 0; told <= FORMS && form >= 0 && form < FORMS; told++) {
                if ((law.forms[line] >> form & 1) != 0) {
                    wrong(WRONG_AGAIN);
                    return;
                }
                law.forms[line] |= 1 << form;
                next();
                form = token - WORD_SALE;
            }
        }

        private void readWithin(int line) {
            if (token == TOKEN_NUMBER && number > MOST_WITHIN) {
                wrong(WRONG_NUMBER);
                return;
            }
            law.within[line] = number;
            want(TOKEN_NUMBER);
        }

        /** Operations of one level, from the left; those of the levels above bind closer. */
        private void readLevel(int level, int nested) {
            if (level >= LEVELS) {
                readPiece(nested);
                return;
            }
            readLevel(level + 1, nested);
            int most = level == LEVEL_TEST ? 1 : MOST_SIGNS;
            for (int i = 0; i < most && levelOf(token) == level; i++) {
                int operation = token;
                next();
                readLevel(level + 1, nested);
                law.addCode(CODE_OPERATION + operation);
            }
        }

        private static int levelOf(int operation) {
            switch (operation) {
                case WORD_AND:
                case WORD_OR:
                    return LEVEL_JOIN;
                case '<':
                case '=':
                    return LEVEL_TEST;
                case '+':
                case '-':
                    return LEVEL_SUM;
                case '*':
                    return LEVEL_PRODUCT;
                default:
                    return LEVELS;
            }
        }

        private void readPiece(int nested) {
            boolean plain = token == TOKEN_NUMBER || token < FACTS;
            if (!plain && token != WORD_NOT && token != '(') {
                wrong(WRONG_TOKEN);
            } else if (nested >= MOST_NESTED) {
                wrong(WRONG_MANY);
            } else if (plain) {
                law.addCode(token == TOKEN_NUMBER ? number : CODE_FACT + token);
                next();
            } else if (token == WORD_NOT) {
                next();
                readPiece(nested + 1);
                law.addCode(CODE_NOT);
            } else {
                next();
                readLevel(LEVEL_JOIN, nested + 1);
                want(')');
            }
        }
    }

    /** What a passing says of itself. */
    private static final class Deal {
        private int parcel;
        private int from;
        private int to;
        private int n;
        private int form;
        private int price;
        private int paid;

        void tell(int newParcel, int seller, int buyer, int twelfths, int newForm, int told, int given) {
            parcel = newParcel;
            from = seller;
            to = buyer;
            n = twelfths;
            form = newForm;
            price = told;
            paid = given;
        }

        void tellEach(int newParcel, int seller, int buyer, int twelfths, int newForm, int each) {
            int all = newForm == FORM_GIFT ? 0 : twelfths * each;
            tell(newParcel, seller, buyer, twelfths, newForm, all, all);
        }

        void copyAll(Deal other) {
            tell(other.parcel, other.from, other.to, other.n, other.form, other.price, other.paid);
        }

        /** Whether it is one at all, whoever holds what. */
        boolean isSound(Village village) {
            if (!village.isTold(parcel) || !areTwoPeople(from, to) || n < 1 || n > WHOLE) {
                return false;
            }
            if (form < 0 || form >= FORMS || !isPrice(price) || !isPrice(paid)) {
                return false;
            }
            return form != FORM_GIFT || price == 0 && paid == 0;
        }

        boolean canBe(Village village, Holdings held) {
            return isSound(village) && held.of(parcel, from) >= n;
        }
    }

    /** Judges by the law who may come first at a passing that is asked about. */
    private static final class Judge {
        private final Village village;
        private final int[] facts = new int[FACTS];
        private final int[] waiting = new int[MOST_WAITING];
        private final int[] standing = new int[WHOS];
        private final int[] lineOf = new int[PEOPLE];
        private Law law;
        private Holdings held;
        private Deal deal;
        private boolean free;
        private int comers;

        Judge(Village village) {
            this.village = village;
        }

        /** Who stands how to a parcel and a seller: asked once for all the deals in that parcel as long as nothing goes over. */
        void settle(Holdings newHeld, int parcel, int seller) {
            held = newHeld;
            for (int who = 0; who < WHOS; who++) {
                standing[who] = village.standing(who, held, parcel, seller);
            }
        }

        /** Begins the judgment of a deal in the parcel and of the seller that were settled. */
        void ask(Deal newDeal) {
            deal = newDeal;
            facts[FACT_N] = deal.n;
            facts[FACT_PRICE] = deal.price;
            facts[FACT_PAID] = deal.paid;
            facts[FACT_KEEPS] = held.of(deal.parcel, deal.from) - deal.n;
            facts[FACT_ESTATE] = held.estates[deal.from] - deal.n;
            facts[FACT_HAS] = held.owned[deal.to];
            for (int form = 0; form < FORMS; form++) {
                facts[FACT_FORM + form] = form == deal.form ? 1 : 0;
            }
            facts[FACT_DAY] = village.now;
        }

        private void askAbout(int person) {
            facts[FACT_NEED] = village.needy >> person & 1;
            facts[FACT_HOLDS] = held.twelfths[deal.parcel * PEOPLE + person];
            facts[FACT_OWNS] = held.owned[person];
            facts[FACT_DEGREE] = village.degrees[person * PEOPLE + deal.from];
        }

        /** Whether a line's condition holds for one of these people at least. */
        private boolean holdsForOne(int line, int people) {
            if (people == 0 || law.codeFrom[line] == law.codeTill[line]) {
                return people != 0;
            }
            if (!law.personal[line]) {
                return value(law.codeFrom[line], law.codeTill[line]) != 0;
            }
            for (int person = 0; person < PEOPLE && people >> person != 0; person++) {
                if ((people >> person & 1) != 0) {
                    askAbout(person);
                    if (value(law.codeFrom[line], law.codeTill[line]) != 0) {
                        return true;
                    }
                }
            }
            return false;
        }

        private int value(int from, int till) {
            int top = 0;
            for (int at = from; at < till; at++) {
                int code = law.code[at];
                if (code < CODE_OPERATION && top < MOST_WAITING) {
                    waiting[top] = code < CODE_FACT ? code : facts[code - CODE_FACT];
                    top++;
                } else if (code == CODE_NOT && top >= 1) {
                    waiting[top - 1] = waiting[top - 1] == 0 ? 1 : 0;
                } else if (top >= 2) {
                    top--;
                    int a = waiting[top - 1];
                    int b = waiting[top];
                    switch (code - CODE_OPERATION) {
                        case '+':
                            a += b;
                            break;
                        case '-':
                            a -= b;
                            break;
                        case '*':
                            a *= b;
                            break;
                        case '<':
                            a = a < b ? 1 : 0;
                            break;
                        case '=':
                            a = a == b ? 1 : 0;
                            break;
                        case WORD_AND:
                            a = a != 0 && b != 0 ? 1 : 0;
                            break;
                        default:
                            a = a != 0 || b != 0 ? 1 : 0;
                            break;
                    }
                    waiting[top - 1] = a;
                }
            }
            return waiting[0];
        }

        /** Who may come first by the law as it is in force: the lines, whether it is free, and the bits. */
        void judgeAll(Holdings newHeld, Deal newDeal) {
            settle(newHeld, newDeal.parcel, newDeal.from);
            ask(newDeal);
            free = false;
            for (int line = 0; line < law.lines; line++) {
                if (!law.first[line] && law.sets[line] == EVERY_SET) {
                    free = free || holdsForOne(line, 1 << deal.to);
                }
            }
            for (int person = 0; person < PEOPLE; person++) {
                lineOf[person] = person == deal.from ? NONE : lineFor(person);
            }
            int bound = lineOf[deal.to] == NONE ? MOST_LINES : lineOf[deal.to];
            comers = 0;
            for (int person = 0; person < PEOPLE; person++) {
                if (!free && person != deal.to && lineOf[person] != NONE && lineOf[person] < bound) {
                    comers |= 1 << person;
                }
            }
        }

        private int lineFor(int person) {
            for (int line = 0; line < law.lines; line++) {
                if (law.ranks[line] != NONE && law.isFirstOn(line, deal.form)) {
                    int people = standing[law.who[line]] & 1 << person;
                    if (holdsForOne(line, people)) {
                        return line;
                    }
                }
            }
            return NONE;
        }

        int rankBy(int person) {
            return lineOf[person] == NONE ? NONE : law.ranks[lineOf[person]];
        }

        /** With which of these sets of lines with maybe in force none of the watchers may come first. */
        long openSets(long sets, int watchers) {
            int buyer = 1 << deal.to;
            int others = watchers & ~buyer & ~(1 << deal.from);
            long shut = 0;
            long left = sets;
            for (int line = 0; line < law.lines && left != 0; line++) {
                long now = left & law.sets[line];
                if (now != 0 && law.isFirstOn(line, deal.form)) {
                    int people = standing[law.who[line]];
                    if (holdsForOne(line, people & buyer)) {
                        left &= ~now;
                    } else if (holdsForOne(line, people & others)) {
                        left &= ~now;
                        shut |= now;
                    }
                }
            }
            for (int line = 0; line < law.lines && shut != 0; line++) {
                if (!law.first[line] && (shut & law.sets[line]) != 0 && holdsForOne(line, buyer)) {
                    shut &= ~law.sets[line];
                }
            }
            return sets & ~shut;
        }
    }

    /** A passing as it was told, with all that the law of then says of it and what came of it since. */
    private static final class Passing {
        private final Deal deal = new Deal();
        private final int[] ranks = new int[PEOPLE];
        private final int[] within = new int[PEOPLE];
        private final int[] weights = new int[PEOPLE];
        // The days on which each one heard, then who waived, who took it and what was paid: what marks keep.
        private final int[] story = new int[STORY];
        private int day;
        private boolean free;
        private int buyerRank;
        private boolean asksPaid;

        void begin(Judge judge, Deal asked, int now) {
            deal.copyAll(asked);
            day = now;
            free = judge.free;
            buyerRank = judge.rankBy(asked.to);
            asksPaid = judge.law.byPaid;
            for (int person = 0; person < PEOPLE; person++) {
                story[person] = NONE;
                ranks[person] = NONE;
                if ((judge.comers >> person & 1) != 0) {
                    keepComer(judge, person);
                }
            }
            story[STORY_WAIVED] = 0;
            story[STORY_TAKER] = NONE;
            story[STORY_PAID] = asked.paid;
        }

        private void keepComer(Judge judge, int person) {
            int line = judge.lineOf[person];
            int who = judge.law.who[line];
            ranks[person] = judge.law.ranks[line];
            within[person] = judge.law.within[line];
            // By heads each one counts alike.
            weights[person] = judge.law.byShares ? judge.village.shareOf(who, judge.held, deal.parcel, person) : 1;
        }

        int tells(int what) {
            switch (what) {
                case 0:
                    return deal.parcel;
                case 1:
                    return deal.from;
                case 2:
                    return deal.to;
                case 3:
                    return deal.n;
                case 4:
                    return deal.form;
                case 5:
                    return deal.price;
                case 6:
                    return story[STORY_PAID];
                case 7:
                    return day;
                case 8:
                    return free ? 1 : 0;
                case 9:
                    return buyerRank;
                case 10:
                    return story[STORY_TAKER];
                default:
                    return priceAsked();
            }
        }

        private int priceAsked() {
            return asksPaid ? story[STORY_PAID] : deal.price;
        }

        boolean isWaived(int person) {
            return (story[STORY_WAIVED] >> person & 1) != 0;
        }

        boolean isTaken() {
            return story[STORY_TAKER] != NONE;
        }

        private boolean isLate(int person, int now) {
            return story[person] != NONE && now > story[person] + within[person];
        }

        int comerAt(int i) {
            int before = 0;
            for (int rank = 0; rank < MOST_LINES; rank++) {
                for (int person = 0; person < PEOPLE; person++) {
                    if (ranks[person] == rank) {
                        if (before == i) {
                            return person;
                        }
                        before++;
                    }
                }
            }
            return NONE;
        }

        int judgeClaim(int person, int coin, int now, Holdings held) {
            if (isTaken()) {
                return CLAIM_TAKEN;
            }
            if (ranks[person] == NONE || isWaived(person)) {
                return CLAIM_MAY_NOT;
            }
            if (isLate(person, now)) {
                return CLAIM_LATE;
            }
            if (isBehindAnother(person, now)) {
                return CLAIM_BEHIND;
            }
            if (coin < priceAsked()) {
                return CLAIM_COIN;
            }
            return held.of(deal.parcel, deal.to) < deal.n ? CLAIM_GONE : CLAIM_WON;
        }

        private boolean isBehindAnother(int person, int now) {
            for (int other = 0; other < PEOPLE; other++) {
                boolean ahead = ranks[other] != NONE && ranks[other] < ranks[person];
                if (ahead && !isWaived(other) && !isLate(other, now)) {
                    return true;
                }
            }
            return false;
        }

        int portion(int person) {
            int all = weightsOf(ranks[person]);
            if (all <= 0) {
                return 0;
            }
            int left = deal.n;
            int before = 0;
            for (int other = 0; other < PEOPLE; other++) {
                if (ranks[other] == ranks[person]) {
                    left -= deal.n * weights[other] / all;
                    before += other < person ? 1 : 0;
                }
            }
            // What the cuts leave is less than there are people, so each one gets one more at most.
            return deal.n * weights[person] / all + (before < left ? 1 : 0);
        }

        private int weightsOf(int rank) {
            int sum = 0;
            for (int person = 0; person < PEOPLE; person++) {
                if (ranks[person] == rank) {
                    sum += weights[person];
                }
            }
            return sum;
        }
    }

    /** What a mark holds; laid tells how many were laid by then, 0 that nothing is on it. */
    private static final class Mark {
        private final Holdings held = new Holdings();
        private final int[] stories = new int[MOST_PASSINGS * STORY];
        private int laid;
        private int told;
        private int now;
        private int passed;

        void lay(int number, Village village, Holdings real, Passing[] passings, int count) {
            laid = number;
            told = village.told;
            now = village.now;
            passed = count;
            held.copyAll(real);
            for (int i = 0; i < passed && i < passings.length; i++) {
                if (passings[i] != null) {
                    System.arraycopy(passings[i].story, 0, stories, i * STORY, STORY);
                }
            }
        }

        void restore(Village village, Holdings real, Passing[] passings) {
            village.now = now;
            for (int parcel = 0; parcel < PARCELS; parcel++) {
                if ((told >> parcel & 1) != 0) {
                    real.copyParcel(held, parcel);
                }
            }
            for (int i = 0; i < passed && i < passings.length; i++) {
                if (passings[i] != null) {
                    System.arraycopy(stories, i * STORY, passings[i].story, 0, STORY);
                }
            }
        }
    }

    /** The passings from an owner to a stranger: what the owner still holds of both parcels is all that changes. */
    private static final class Ways {
        private final Village village;
        private final Holdings real;
        private final Judge judge;
        private final Holdings trial = new Holdings();
        private final Deal deal = new Deal();
        private final int[] queue = new int[SPAN * SPAN];
        private final int[] cameFrom = new int[SPAN * SPAN];
        private final int[] steps = new int[SPAN * SPAN];
        private int queued;
        private int parcel;
        private int other;
        private int owner;
        private int stranger;
        private int each;
        private int turned;
        private int form;
        private int start;
        private int end;
        private int length;
        private int foundAt = NONE;

        Ways(Village village, Holdings real, Judge judge) {
            this.village = village;
            this.real = real;
            this.judge = judge;
        }

        void begin(int newParcel, int newOwner, int newStranger, int newEach) {
            parcel = newParcel;
            owner = newOwner;
            stranger = newStranger;
            each = newEach;
            other = NONE;
            for (int p = PARCELS - 1; p >= 0; p--) {
                if (p != parcel && real.of(p, owner) > 0) {
                    other = p;
                }
            }
            start = real.of(parcel, owner) * SPAN + (other == NONE ? 0 : real.of(other, owner));
            trial.copyAll(real);
            foundAt = NONE;
        }

        /** How much the owner holds of the parcel (0) or of the other one (1). */
        int left(int state, int which) {
            return which == 0 ? state / SPAN : state % SPAN;
        }

        int behind(int state, int which, int n) {
            return which == 0 ? state - n * SPAN : state - n;
        }

        void place(int state) {
            trial.move(parcel, owner, stranger, trial.of(parcel, owner) - left(state, 0));
            if (other != NONE) {
                trial.move(other, owner, stranger, trial.of(other, owner) - left(state, 1));
            }
        }

        /** From now on it is of the parcel (0) or of the other one (1) that twelfths go. */
        void turnTo(int which) {
            turned = which == 0 ? parcel : other;
            if (turned != NONE) {
                judge.settle(trial, turned, owner);
            }
        }

        /** With which of the sets such a passing is open by one form at least; form is the last one that was tried. */
        long openSets(int n, long sets) {
            long left = sets;
            for (int f = 0; f < FORMS && left != 0; f++) {
                form = f;
                deal.tellEach(turned, owner, stranger, n, form, each);
                judge.ask(deal);
                left &= ~judge.openSets(left, EVERYBODY);
            }
            return sets & ~left;
        }

        /** How many passings the shortest row has. Asked again with nothing changed, it is still known. */
        int findRow(int newParcel, int newOwner, int newStranger, int newEach) {
            boolean same = parcel == newParcel && owner == newOwner && stranger == newStranger && each == newEach;
            if (!same || foundAt != village.changes) {
                begin(newParcel, newOwner, newStranger, newEach);
                length = search();
                foundAt = village.changes;
            }
            return length;
        }

        /** Level by level, in the order of the rows, so that the first row found is the first in order. */
        private int search() {
            for (int state = 0; state < SPAN * SPAN; state++) {
                cameFrom[state] = NONE;
            }
            cameFrom[start] = start;
            queue[0] = start;
            queued = 1;
            int from = 0;
            for (int level = 1; level <= MOST_ROW && from < queued; level++) {
                int till = queued;
                for (int i = from; i < till; i++) {
                    if (endsBehind(queue[i])) {
                        return level;
                    }
                }
                for (int i = from; i < till; i++) {
                    spread(queue[i]);
                }
                from = till;
            }
            return NONE;
        }

        private boolean endsBehind(int state) {
            place(state);
            turnTo(0);
            int n = left(state, 0);
            if (openSets(n, EMPTY_SET) == 0) {
                return false;
            }
            end = behind(state, 0, n);
            keepStep(state, end, 0, n);
            return true;
        }

        private void spread(int state) {
            place(state);
            for (int which = 0; which < 2; which++) {
                turnTo(which);
                int most = left(state, which) - (which == 0 ? 1 : 0);
                for (int n = 1; n <= most; n++) {
                    int next = behind(state, which, n);
                    if (cameFrom[next] == NONE && openSets(n, EMPTY_SET) != 0) {
                        keepStep(state, next, which, n);
                        queue[queued] = next;
                        queued++;
                    }
                }
            }
        }

        private void keepStep(int state, int next, int which, int n) {
            cameFrom[next] = state;
            steps[next] = (which * SPAN + n) * FORMS + form;
        }

        int stepTells(int fromEnd, int what) {
            int state = end;
            for (int i = 0; i < fromEnd && i < MOST_ROW; i++) {
                state = cameFrom[state];
            }
            int step = steps[state];
            if (what == 0) {
                return step / FORMS < SPAN ? parcel : other;
            }
            return what == 1 ? step / FORMS % SPAN : step % FORMS;
        }
    }

    /** Seeks the fewest lines with maybe that stop every row while honest passings still are. */
    private static final class Mender {
        private final Village village;
        private final Holdings real;
        private final Judge judge;
        private final Ways ways;
        private final Deal[] honest = new Deal[MOST_HONEST];
        // By what the owner still holds of both parcels: the sets with which it comes to that.
        private final long[] reached = new long[SPAN * SPAN];
        private int honestOnes;
        private int parcel;
        private int owner;
        private int stranger;
        private int each;
        private int answer;
        private int foundAt = NONE;

        Mender(Village village, Holdings real, Judge judge, Ways ways) {
            this.village = village;
            this.real = real;
            this.judge = judge;
            this.ways = ways;
        }

        void addHonest(Deal deal) {
            if (honestOnes < MOST_HONEST) {
                honest[honestOnes] = new Deal();
                honest[honestOnes].copyAll(deal);
                honestOnes++;
            }
        }

        /** The set as bits. Asked again with nothing changed, it is still known. */
        int find(int newParcel, int newOwner, int newStranger, int newEach) {
            boolean same = parcel == newParcel && owner == newOwner && stranger == newStranger && each == newEach;
            if (!same || foundAt != village.changes) {
                parcel = newParcel;
                owner = newOwner;
                stranger = newStranger;
                each = newEach;
                long sets = honestSets();
                answer = leastOf(sets & ~slySets(sets));
                foundAt = village.changes;
            }
            return answer;
        }

        private long honestSets() {
            int maybes = judge.law.maybes;
            long sets = maybes >= MOST_MAYBES ? EVERY_SET : (1L << (1 << maybes)) - 1;
            for (int i = 0; i < honestOnes && i < MOST_HONEST; i++) {
                Deal deal = honest[i];
                if (deal != null && deal.canBe(village, real)) {
                    judge.settle(real, deal.parcel, deal.from);
                    judge.ask(deal);
                    sets = judge.openSets(sets, EVERYBODY);
                }
            }
            return sets;
        }

        /** Those of the sets with which there is a row. Each passing takes from one heap, so all heaps that lead to one are done ahead of it. */
        private long slySets(long sets) {
            ways.begin(parcel, owner, stranger, each);
            for (int state = 0; state < SPAN * SPAN; state++) {
                reached[state] = 0;
            }
            reached[ways.start] = sets;
            long sly = 0;
            for (int state = ways.start; state >= SPAN; state--) {
                reached[state] &= ~sly;
                if (reached[state] != 0) {
                    ways.place(state);
                    ways.turnTo(0);
                    sly |= ways.openSets(ways.left(state, 0), reached[state]);
                    reached[state] &= ~sly;
                    spread(state);
                }
            }
            return sly;
        }

        private void spread(int state) {
            for (int which = 0; which < 2; which++) {
                ways.turnTo(which);
                int most = ways.left(state, which) - (which == 0 ? 1 : 0);
                for (int n = 1; n <= most; n++) {
                    int next = ways.behind(state, which, n);
                    reached[next] |= ways.openSets(n, reached[state] & ~reached[next]);
                }
            }
        }

        private static int leastOf(long sets) {
            int least = NONE;
            for (int set = 0; set < 1 << MOST_MAYBES; set++) {
                boolean does = (sets >>> set & 1) != 0;
                if (does && (least == NONE || Integer.bitCount(set) < Integer.bitCount(least))) {
                    least = set;
                }
            }
            return least;
        }
    }

    /** Seeks how many parcels a stranger gets in so many years, one whole parcel in each. */
    private static final class HowFar {
        private final Village village;
        private final Holdings real;
        private final Judge judge;
        private final Holdings trial = new Holdings();
        private final Deal deal = new Deal();
        private final int[] sellers = new int[PARCELS];
        // For each set of parcels got, as bits, whether it comes about.
        private final long[] reached = new long[PARCEL_SETS / 64];
        private int placed;
        private int own;
        private int forSale;
        private int best;
        private int stranger;
        private int years;
        private int each;
        private int foundAt = NONE;

        HowFar(Village village, Holdings real, Judge judge) {
            this.village = village;
            this.real = real;
            this.judge = judge;
        }

        /** Asked again with nothing changed, it is still known. */
        void find(int newStranger, int newYears, int newEach) {
            boolean same = stranger == newStranger && years == newYears && each == newEach;
            if (!same || foundAt != village.changes) {
                stranger = newStranger;
                years = newYears;
                each = newEach;
                begin();
                search();
                foundAt = village.changes;
            }
        }

        private void begin() {
            own = 0;
            forSale = 0;
            for (int parcel = 0; parcel < PARCELS; parcel++) {
                sellers[parcel] = real.onlyHolder(parcel);
                if (sellers[parcel] == stranger) {
                    own |= 1 << parcel;
                } else if (sellers[parcel] != NONE) {
                    forSale |= 1 << parcel;
                }
            }
            for (int i = 0; i < reached.length; i++) {
                reached[i] = 0;
            }
            trial.copyAll(real);
            placed = 0;
        }

        /** In the order of their bits, so that a set comes behind all that lead to it, and the least of its size comes first. */
        private void search() {
            best = 0;
            reached[0] = 1;
            int set = 0;
            for (int i = 1; i < PARCEL_SETS; i++) {
                set = set - forSale & forSale;
                if (set == 0) {
                    return;
                }
                if (Integer.bitCount(set) <= years && comesAbout(set)) {
                    reached[set >> 6] |= 1L << (set & 63);
                    if (Integer.bitCount(set) > Integer.bitCount(best)) {
                        best = set;
                    }
                }
            }
        }

        private boolean comesAbout(int set) {
            for (int parcel = 0; parcel < PARCELS; parcel++) {
                int before = set & ~(1 << parcel);
                if (before != set && (reached[before >> 6] >>> (before & 63) & 1) != 0) {
                    place(before);
                    if (sells(parcel)) {
                        return true;
                    }
                }
            }
            return false;
        }

        private void place(int set) {
            int other = placed ^ set;
            for (int parcel = 0; parcel < PARCELS && other >> parcel != 0; parcel++) {
                if ((other >> parcel & 1) != 0) {
                    boolean gets = (set >> parcel & 1) != 0;
                    trial.move(parcel, sellers[parcel], stranger, gets ? WHOLE : -WHOLE);
                }
            }
            placed = set;
        }

        private boolean sells(int parcel) {
            judge.settle(trial, parcel, sellers[parcel]);
            for (int form = 0; form < FORMS; form++) {
                deal.tellEach(parcel, sellers[parcel], stranger, WHOLE, form, each);
                judge.ask(deal);
                if (judge.openSets(EMPTY_SET, village.caring) != 0) {
                    return true;
                }
            }
            return false;
        }
    }
}
