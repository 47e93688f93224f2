/** Judges who decide a suit otherwise than the like ones before it; see README.md. */
public final class OtherwiseCourt {
    public static final int NONE = -1, BAD = -2, STATE = -3, FULL = -4;
    public static final long NO = Long.MIN_VALUE;

    private static final int NOTHING = -5, STRANGER = -6;
    private static final int NONE_FAR = -100001, BAD_FAR = -100002;

    private static final int SUITS = 8, JUDGES = 4, COURTS = 5, ENTRIES = 24, QUEUE = 8, SIGNS = 100;
    private static final int POINTS = 8, POINT_SETS = 256, ROW = 4, BROUGHT = 6;
    private static final int SHAM_SETS = 64, TIMES = 60, BARS = 40, TRACED = 20;
    /** The book, and behind it all that one question can hear at most. */
    private static final int HEARINGS = ENTRIES + TIMES + 1;

    private static final int JUDGE = 0, LAST = 1, NEAR = 2, MOST = 3, ORDERLY = 4, STRICT = 5, TOLD = 6;
    private static final int KINDS = 7;
    private static final int[] ABOVE = {-1, JUDGE, JUDGE, JUDGE, LAST, NEAR, MOST};

    private final Hall hall = new Hall();
    private final Hall kept = new Hall();
    private boolean imaged = false;
    private final Law law = new Law();
    private final Sitting sitting = new Sitting();
    private final Search search = new Search(sitting);
    private final Coins coins = new Coins(sitting);
    private final Deeds deeds = new Deeds();

    public OtherwiseCourt() {
    }

    // ---- courts, suits, judges

    public int feed(int sign) {
        if (sign < 0 || sign > 127) {
            return BAD;
        }
        if (hall.signs < 0 || hall.signs >= SIGNS) {
            return FULL;
        }
        hall.tape[hall.signs] = (byte) sign;
        hall.signs++;
        return hall.signs;
    }

    public int court() {
        if (hall.courts >= COURTS) {
            return FULL;
        }
        int size = hall.signs;
        hall.signs = 0;
        int fault = law.learn(hall.tape, size, JUDGE, 0, 0);
        if (fault >= 0) {
            return -10 - fault;
        }
        for (int i = 0; i < size && i < SIGNS; i++) {
            hall.law[i] = hall.tape[i];
        }
        hall.lawSize = size;
        hall.courts++;
        return hall.courts - 1;
    }

    public int day(int n) {
        if (n < 0 || n > 9) {
            return BAD;
        }
        int before = hall.day;
        hall.day = n;
        return before;
    }

    public int suit(int points, int worth) {
        if (points < 0 || points >= POINT_SETS || worth < 0 || worth > 99) {
            return BAD;
        }
        if (hall.suits < 0 || hall.suits >= SUITS) {
            return FULL;
        }
        hall.points[hall.suits] = points;
        hall.worths[hall.suits] = worth;
        hall.suits++;
        return hall.suits - 1;
    }

    public int of(int suit, int what) {
        if (!hall.hasSuit(suit) || what < 0 || what > 1) {
            return NONE;
        }
        return what == 0 ? hall.pointsOf(suit) : hall.worthOf(suit);
    }

    public int judge(int kind, int v) {
        if (kind < 0 || kind >= KINDS) {
            return NONE;
        }
        if (v < 0 || v > 9) {
            return BAD;
        }
        if (hall.judges < 0 || hall.judges >= JUDGES) {
            return FULL;
        }
        hall.kinds[hall.judges] = kind;
        hall.numbers[hall.judges] = v;
        hall.judges++;
        return hall.judges - 1;
    }

    public int at(int judge, int what) {
        if (!hall.hasJudge(judge)) {
            return NONE;
        }
        if (what == 0) {
            return hall.kindOf(judge);
        }
        if (what == 1) {
            return hall.numberOf(judge);
        }
        if (what >= 10 && what < 10 + POINTS) {
            openFor(judge);
            return law.weights[what - 10];
        }
        if (what >= 20 && what < 20 + POINTS) {
            openFor(judge);
            return law.clashes[what - 20];
        }
        return NONE;
    }

    public int row(int judge, int k, int n) {
        if (!hall.hasJudge(judge) || k < 0 || k >= ROW) {
            return NONE;
        }
        if (n < 0 || n > 2) {
            return BAD;
        }
        if (hall.kindOf(judge) != TOLD) {
            return STATE;
        }
        int before = hall.rows[judge * ROW + k];
        hall.rows[judge * ROW + k] = n;
        return before;
    }

    public int told(int what) {
        if (what == 0) {
            return hall.day;
        }
        if (what == 1) {
            law.learn(hall.law, hall.lawSize, JUDGE, 0, hall.day);
            return law.bar;
        }
        return NONE;
    }

    // ---- decided

    public int score(int judge, int one, int other) {
        if (!hall.hasJudge(judge) || !hall.hasSuit(one) || !hall.hasSuit(other)) {
            return NONE_FAR;
        }
        openFor(judge);
        return sitting.alike(hall.pointsOf(one), hall.pointsOf(other));
    }

    public int decides(int judge, int suit, int what) {
        if (!hall.hasJudge(judge) || !hall.hasSuit(suit) || what < 0 || what > 2) {
            return NONE;
        }
        openFor(judge);
        Tally own = sitting.own;
        own.begin(hall.pointsOf(suit));
        sitting.follow(own, sitting.heard);
        if (what == 0) {
            return sitting.isFor(own) ? 1 : 0;
        }
        return what == 1 ? sitting.decidedBy(own) : own.likes();
    }

    public int hear(int judge, int suit) {
        if (!hall.hasJudge(judge) || !hall.hasSuit(suit)) {
            return NONE;
        }
        if (hall.entries >= ENTRIES) {
            return FULL;
        }
        openFor(judge);
        boolean is = sitting.wins(hall.pointsOf(suit));
        hall.write(suit, is);
        return is ? 1 : 0;
    }

    public int enter(int suit, boolean is) {
        if (suit == -1) {
            hall.entries = 0;
            return 0;
        }
        if (!hall.hasSuit(suit)) {
            return NONE;
        }
        if (hall.entries >= ENTRIES) {
            return FULL;
        }
        hall.write(suit, is);
        return hall.entries;
    }

    public int entry(int k) {
        if (k < 0 || k >= hall.entries || k >= ENTRIES) {
            return NONE;
        }
        return hall.book[k];
    }

    // ---- what to bring

    public int best(int judge, int set, int k) {
        if (!hall.hasJudge(judge) || k < -1 || k >= BROUGHT) {
            return NONE_FAR;
        }
        if (!hall.hasSuits(set) || Integer.bitCount(set) > BROUGHT) {
            return BAD_FAR;
        }
        openFor(judge);
        search.order(hall, set);
        if (k == -1) {
            return search.most;
        }
        return k < Integer.bitCount(set) ? search.row[k] : NOTHING;
    }

    public int shams(int judge, int suit, int k) {
        if (!hall.hasJudge(judge) || !hall.hasSuit(suit) || k < -1 || k > 1) {
            return NONE;
        }
        openFor(judge);
        int many = search.shamsAhead(hall.pointsOf(suit));
        if (k == -1) {
            return many;
        }
        return k < many ? search.row[k] : NOTHING;
    }

    public int point(int judge, int suit, int what) {
        if (!hall.hasJudge(judge) || !hall.hasSuit(suit) || what < 0 || what > 1) {
            return NONE;
        }
        openFor(judge);
        int points = hall.pointsOf(suit);
        if (sitting.wins(points)) {
            return POINTS;
        }
        for (int p = 0; p < POINTS; p++) {
            boolean has = (points >> p & 1) == 1;
            if (has == (what == 1) && sitting.wins(points ^ 1 << p)) {
                return p;
            }
        }
        return NOTHING;
    }

    public int rival(int judge, int ours, int theirs, int what) {
        if (!hall.hasJudge(judge) || what < 0 || what > 1) {
            return NONE_FAR;
        }
        if (!hall.hasSuits(ours) || !hall.hasSuits(theirs) || (ours & theirs) != 0
                || Integer.bitCount(ours | theirs) > BROUGHT) {
            return BAD_FAR;
        }
        openFor(judge);
        int much = search.against(hall, ours, theirs);
        return what == 0 ? much : search.first;
    }

    public int again(int judge, int suit, int n) {
        if (!hall.hasJudge(judge) || !hall.hasSuit(suit)) {
            return NONE;
        }
        if (n < 0 || n > TIMES) {
            return BAD;
        }
        openFor(judge);
        return sitting.timesWon(hall.pointsOf(suit), n);
    }

    public int swing(int judge, int suit) {
        if (!hall.hasJudge(judge) || !hall.hasSuit(suit)) {
            return NONE;
        }
        openFor(judge);
        return sitting.firstTurn(hall.pointsOf(suit));
    }

    // ---- books

    public int unlawful(int judge) {
        if (!hall.hasJudge(judge)) {
            return NONE;
        }
        openFor(judge);
        return sitting.firstUnlawful();
    }

    public int wrong(int judge) {
        if (!hall.hasJudge(judge)) {
            return NONE;
        }
        openFor(judge);
        int bits = 0;
        for (int k = 0; k < hall.entries && k < ENTRIES; k++) {
            sitting.turn(k);
            if (sitting.firstUnlawful() == NOTHING) {
                bits |= 1 << k;
            }
            sitting.turn(k);
        }
        return bits;
    }

    public int bars(int judge, int what) {
        if (!hall.hasJudge(judge) || what < 0 || what > 2) {
            return NONE;
        }
        openFor(judge);
        int many = 0;
        int least = NOTHING;
        int greatest = NOTHING;
        for (int n = 0; n <= BARS; n++) {
            sitting.setBar(n);
            if (sitting.firstUnlawful() == NOTHING) {
                many++;
                least = many == 1 ? n : least;
                greatest = n;
            }
        }
        if (what == 0) {
            return many;
        }
        return what == 1 ? least : greatest;
    }

    // ---- queues; part 0 above, 1 below the line

    public int queue(int suit) {
        if (suit == -1) {
            hall.queued = 0;
            return 0;
        }
        if (!hall.hasSuit(suit)) {
            return NONE;
        }
        if (hall.queued < 0 || hall.queued >= QUEUE) {
            return FULL;
        }
        hall.queue[hall.queued] = suit;
        hall.queued++;
        return hall.queued;
    }

    public long odds(int judge, int k, int part) {
        if (!hall.hasJudge(judge) || k < 0 || k >= hall.queued || k >= QUEUE || part < 0 || part > 1) {
            return NO;
        }
        openFor(judge);
        coins.fall(hall);
        return Coins.part(coins.chances[k], part);
    }

    public long expects(int judge, int part) {
        if (!hall.hasJudge(judge) || part < 0 || part > 1) {
            return NO;
        }
        openFor(judge);
        coins.fall(hall);
        int worth = 0;
        for (int k = 0; k < hall.queued && k < QUEUE; k++) {
            worth += coins.chances[k] * hall.worthOf(hall.queue[k]);
        }
        return Coins.part(worth, part);
    }

    // ---- acts, the image

    public int act(int judge, int act, int x) {
        if (!hall.hasJudge(judge) || act < 0 || act >= Deeds.ACTS) {
            deeds.ran = 0;
            return 0;
        }
        return deeds.perform(judge, hall.kindOf(judge), hall.numberOf(judge), act, x);
    }

    public int trace(int i) {
        if (i < 0 || i >= deeds.ran || i >= TRACED) {
            return NONE;
        }
        return deeds.bodies[i];
    }

    public int as(int judge, int k) {
        if (!hall.hasJudge(judge) || k < 0 || k >= KINDS) {
            return NONE;
        }
        int kind = hall.kindOf(judge);
        for (int step = 0; step < KINDS && kind >= 0 && kind < KINDS; step++) {
            if (kind == k) {
                return hall.numberOf(judge);
            }
            kind = ABOVE[kind];
        }
        return STRANGER;
    }

    public int image() {
        kept.become(hall);
        imaged = true;
        return hall.suits;
    }

    public int undo() {
        if (!imaged) {
            return STATE;
        }
        hall.become(kept);
        return hall.suits;
    }

    public int count(int what) {
        switch (what) {
            case 0: return hall.suits;
            case 1: return hall.judges;
            case 2: return hall.courts;
            case 3: return hall.entries;
            case 4: return hall.queued;
            case 5: return hall.signs;
            case 6: return deeds.ran;
            default: return NONE;
        }
    }

    /** Makes all ready to hear before this judge, who must be there, from the book as it is. */
    private void openFor(int judge) {
        law.learn(hall.law, hall.lawSize, hall.kindOf(judge), hall.numberOf(judge), hall.day);
        sitting.open(hall, law, judge);
    }

    /** All that an image keeps. */
    private static final class Hall {
        int day = 0;
        int suits = 0;
        final int[] points = new int[SUITS];
        final int[] worths = new int[SUITS];
        int judges = 0;
        final int[] kinds = new int[JUDGES];
        final int[] numbers = new int[JUDGES];
        final int[] rows = new int[JUDGES * ROW];
        int entries = 0;
        /** 2 times the suit, and 1 if it was decided for it. */
        final int[] book = new int[ENTRIES];
        int queued = 0;
        final int[] queue = new int[QUEUE];
        int signs = 0;
        final byte[] tape = new byte[SIGNS];
        int courts = 0;
        /** The text of the court that holds; no call can ask for an older one. */
        int lawSize = 0;
        final byte[] law = new byte[SIGNS];

        boolean hasSuit(int suit) {
            return suit >= 0 && suit < suits && suit < SUITS;
        }

        boolean hasSuits(int set) {
            return set >= 0 && set < 1 << suits;
        }

        boolean hasJudge(int judge) {
            return judge >= 0 && judge < judges && judge < JUDGES;
        }

        int pointsOf(int suit) {
            return hasSuit(suit) ? points[suit] : 0;
        }

        int worthOf(int suit) {
            return hasSuit(suit) ? worths[suit] : 0;
        }

        int kindOf(int judge) {
            return hasJudge(judge) ? kinds[judge] : JUDGE;
        }

        int numberOf(int judge) {
            return hasJudge(judge) ? numbers[judge] : 0;
        }

        void write(int suit, boolean is) {
            if (entries >= 0 && entries < ENTRIES) {
                book[entries] = 2 * suit + (is ? 1 : 0);
                entries++;
            }
        }

        void become(Hall other) {
            day = other.day;
            suits = other.suits;
            judges = other.judges;
            entries = other.entries;
            queued = other.queued;
            signs = other.signs;
            courts = other.courts;
            lawSize = other.lawSize;
            System.arraycopy(other.points, 0, points, 0, SUITS);
            System.arraycopy(other.worths, 0, worths, 0, SUITS);
            System.arraycopy(other.kinds, 0, kinds, 0, JUDGES);
            System.arraycopy(other.numbers, 0, numbers, 0, JUDGES);
            System.arraycopy(other.rows, 0, rows, 0, JUDGES * ROW);
            System.arraycopy(other.book, 0, book, 0, ENTRIES);
            System.arraycopy(other.queue, 0, queue, 0, QUEUE);
            System.arraycopy(other.tape, 0, tape, 0, SIGNS);
            System.arraycopy(other.law, 0, law, 0, SIGNS);
        }
    }

    /**
     * Reads the text of a court, sign by sign, for one judge on one day: what each point weighs
     * and clashes, and the bar. An expression is worked out as the set of points for which it holds.
     */
    private static final class Law {
        private static final int CLAUSES = 10, OPEN = 5, ALL = POINT_SETS - 1;
        /** What the next sign has to be. */
        private static final int CLAUSE = 0, WORD = 1, AMOUNT = 2, FACTOR = 3, HOW = 4, VALUE = 5, BEHIND = 6;

        final int[] weights = new int[POINTS];
        final int[] clashes = new int[POINTS];
        int bar = 2;
        private int kind = 0;
        private int number = 0;
        private int day = 0;
        private int state = CLAUSE;
        private int verb = 0;
        private int letter = 0;
        private int clauses = 0;
        private int amount = 0;
        private int digits = 0;
        private int times = 0;
        private int of = 0;
        private int how = 0;
        private int open = 0;
        private final int[] openers = new int[OPEN];
        /** By what is open: the terms that ended, joined by |, and the factors of the latest one, joined by &. */
        private final int[] terms = new int[OPEN + 1];
        private final int[] factors = new int[OPEN + 1];

        /**
         * The place of the fault, -1 if there is none. No court is told as an empty text: that is
         * a fault, but leaves all as it is without clauses.
         */
        int learn(byte[] text, int size, int ofKind, int ofNumber, int onDay) {
            for (int p = 0; p < POINTS; p++) {
                weights[p] = 1;
                clashes[p] = 0;
            }
            bar = 2;
            clauses = 0;
            state = CLAUSE;
            kind = ofKind;
            number = ofNumber;
            day = onDay;
            int end = Math.max(0, Math.min(size, text.length));
            for (int place = 0; place < end; place++) {
                if (!goesOn(text[place]) || clauses == CLAUSES) {
                    return place;
                }
            }
            // a text is whole just where a ; could go on, but for the number of clauses
            return goesOn(';') ? -1 : end;
        }

        private boolean goesOn(int sign) {
            switch (state) {
                case CLAUSE: return beginsClause(sign);
                case WORD: return goesOnWord(sign);
                case AMOUNT: return isDigit(sign) || digits > 0 && endsAmount(sign);
                case FACTOR: return beginsFactor(sign);
                case HOW: return compares(sign);
                case VALUE: return isDigit(sign) || digits > 0 && endsTest(sign);
                default: return goesBehind(sign);
            }
        }

        private boolean beginsClause(int sign) {
            verb = sign;
            letter = 1;
            state = WORD;
            return sign == 'w' || sign == 'c' || sign == 'b';
        }

        private boolean goesOnWord(int sign) {
            String word = verb == 'w' ? "weigh " : verb == 'c' ? "clash " : "bar ";
            if (letter < 0 || letter >= word.length() || word.charAt(letter) != sign) {
                return false;
            }
            letter++;
            if (letter == word.length()) {
                beginNumber(AMOUNT);
            }
            return true;
        }

        private void beginNumber(int next) {
            amount = 0;
            digits = 0;
            state = next;
        }

        private boolean isDigit(int sign) {
            if (sign < '0' || sign > '9' || digits > 1 || digits == 1 && amount == 0) {
                return false;
            }
            amount = amount * 10 + sign - '0';
            digits++;
            return true;
        }

        private boolean endsAmount(int sign) {
            if (verb == 'b') {
                bar = amount;
                clauses++;
                state = CLAUSE;
                return sign == ';';
            }
            times = amount;
            open = 0;
            terms[0] = 0;
            factors[0] = ALL;
            state = FACTOR;
            return sign == ' ';
        }

        private boolean beginsFactor(int sign) {
            if (sign == '!' || sign == '(') {
                if (open < 0 || open >= OPEN) {
                    return false;
                }
                openers[open] = sign;
                open++;
                terms[open] = 0;
                factors[open] = ALL;
                return true;
            }
            of = sign;
            state = HOW;
            return sign == 'p' || sign == 'k' || sign == 'v' || sign == 'd';
        }

        private boolean compares(int sign) {
            how = sign;
            beginNumber(VALUE);
            return sign == '<' || sign == '=' || sign == '>';
        }

        private boolean endsTest(int sign) {
            int holds = 0;
            for (int p = 0; p < POINTS; p++) {
                int value = of == 'p' ? p : of == 'k' ? kind : of == 'v' ? number : day;
                if (how == '<' ? value < amount : how == '=' ? value == amount : value > amount) {
                    holds |= 1 << p;
                }
            }
            endFactor(holds);
            state = BEHIND;
            return goesBehind(sign);
        }

        private void endFactor(int holds) {
            int turned = holds;
            for (int k = 0; k < OPEN && open > 0 && open <= OPEN && openers[open - 1] == '!'; k++) {
                turned ^= ALL;
                open--;
            }
            if (open >= 0 && open <= OPEN) {
                factors[open] &= turned;
            }
        }

        private boolean goesBehind(int sign) {
            if (open < 0 || open > OPEN) {
                return false;
            }
            if (sign == '&') {
                state = FACTOR;
                return true;
            }
            terms[open] |= factors[open];
            factors[open] = ALL;
            if (sign == '|') {
                state = FACTOR;
                return true;
            }
            int holds = terms[open];
            if (sign == ')' && open > 0) {
                open--;
                endFactor(holds);
                return true;
            }
            if (sign == ';' && open == 0) {
                grow(verb == 'w' ? weights : clashes, holds);
                clauses++;
                state = CLAUSE;
                return true;
            }
            return false;
        }

        private void grow(int[] values, int holds) {
            for (int p = 0; p < POINTS && p < values.length; p++) {
                values[p] += (holds >> p & 1) * times;
            }
        }
    }

    /** What one set of points has met among the entries seen so far that are like it. */
    private static final class Tally {
        int points = 0;
        int seen = 0;
        int earliest = -1;
        int latest = -1;
        int nearest = -1;
        int nearness = 0;
        int wins = 0;
        int losses = 0;

        void begin(int ofPoints) {
            points = ofPoints;
            seen = 0;
            earliest = -1;
            latest = -1;
            nearest = -1;
            nearness = 0;
            wins = 0;
            losses = 0;
        }

        void become(Tally other) {
            points = other.points;
            seen = other.seen;
            earliest = other.earliest;
            latest = other.latest;
            nearest = other.nearest;
            nearness = other.nearness;
            wins = other.wins;
            losses = other.losses;
        }

        void meet(int k, int score, boolean is) {
            if (earliest < 0) {
                earliest = k;
            }
            latest = k;
            if (nearest < 0 || score >= nearness) {
                nearest = k;
                nearness = score;
            }
            if (is) {
                wins++;
            } else {
                losses++;
            }
        }

        int likes() {
            return wins + losses;
        }

        boolean torn() {
            return wins > 0 && losses > 0;
        }
    }

    /** One judge over the book and over what a question hears behind it. */
    private static final class Sitting {
        private int kind = 0;
        private int number = 0;
        private int bar = 0;
        private final int[] row = new int[ROW];
        private final int[] weightOf = new int[POINT_SETS];
        private final int[] clashOf = new int[POINT_SETS];
        int heard = 0;
        private final int[] points = new int[HEARINGS];
        private final boolean[] fors = new boolean[HEARINGS];
        final Tally own = new Tally();
        private final Tally passing = new Tally();

        void open(Hall hall, Law law, int judge) {
            kind = hall.kindOf(judge);
            number = hall.numberOf(judge);
            for (int k = 0; k < ROW; k++) {
                int i = judge * ROW + k;
                row[k] = i >= 0 && i < JUDGES * ROW ? hall.rows[i] : 0;
            }
            addUp(law.weights, weightOf);
            addUp(law.clashes, clashOf);
            setBar(law.bar);
            heard = 0;
            for (int k = 0; k < hall.entries && k < ENTRIES; k++) {
                push(hall.pointsOf(hall.book[k] >> 1), (hall.book[k] & 1) == 1);
            }
        }

        /** So that a score costs two looks into tables: a question may ask for a great many. */
        private static void addUp(int[] single, int[] sums) {
            sums[0] = 0;
            for (int p = 0; p < POINTS; p++) {
                int bit = 1 << p;
                for (int i = 0; i < bit; i++) {
                    sums[bit + i] = sums[i] + single[p];
                }
            }
        }

        void setBar(int n) {
            bar = kind == STRICT ? n + number : n;
        }

        int alike(int one, int other) {
            return weightOf[one & other & POINT_SETS - 1] - clashOf[(one ^ other) & POINT_SETS - 1];
        }

        void push(int ofPoints, boolean is) {
            if (heard >= 0 && heard < HEARINGS) {
                points[heard] = ofPoints;
                fors[heard] = is;
                heard++;
            }
        }

        void pop() {
            heard = Math.max(0, heard - 1);
        }

        void turn(int k) {
            if (k >= 0 && k < heard && k < HEARINGS) {
                fors[k] = !fors[k];
            }
        }

        private boolean wasFor(int k) {
            return k >= 0 && k < heard && k < HEARINGS && fors[k];
        }

        /** Lets the tally see the entries ahead of the given one that it has not seen yet. */
        void follow(Tally tally, int upTo) {
            int end = Math.min(Math.min(upTo, heard), HEARINGS);
            for (int k = Math.max(0, tally.seen); k < end; k++) {
                int score = alike(tally.points, points[k]);
                if (score >= bar) {
                    tally.meet(k, score, fors[k]);
                }
                tally.seen = k + 1;
            }
        }

        private int rowTells(int ofPoints) {
            return kind == TOLD ? row[Integer.bitCount(ofPoints) & ROW - 1] : 0;
        }

        /** Whether neither the row nor any entry says how it is decided. */
        boolean isOpen(Tally tally) {
            return rowTells(tally.points) == 0 && tally.likes() == 0;
        }

        boolean isFor(Tally tally) {
            int tells = rowTells(tally.points);
            if (tells != 0) {
                return tells == 1;
            }
            if (tally.likes() == 0) {
                return (number & 1) == 1;
            }
            switch (kind) {
                case LAST:
                    return !wasFor(tally.latest);
                case NEAR:
                case STRICT:
                    return !wasFor(tally.nearest);
                case MOST:
                case TOLD:
                    return tally.wins == tally.losses ? !wasFor(tally.earliest) : tally.losses > tally.wins;
                case ORDERLY:
                    return tally.torn() ? number > 4 : !wasFor(tally.latest);
                default:
                    return !wasFor(tally.earliest);
            }
        }

        int decidedBy(Tally tally) {
            if (tally.likes() == 0) {
                return NOTHING;
            }
            switch (kind) {
                case LAST:
                    return tally.latest;
                case NEAR:
                case STRICT:
                    return tally.nearest;
                case MOST:
                case TOLD:
                    return NOTHING;
                case ORDERLY:
                    return tally.torn() ? NOTHING : tally.latest;
                default:
                    return tally.earliest;
            }
        }

        boolean wins(int ofPoints) {
            own.begin(ofPoints);
            follow(own, heard);
            return isFor(own);
        }

        /** The tally as it would be by now; the given one stays, for other ways to go on from it. */
        Tally now(Tally tally) {
            passing.become(tally);
            follow(passing, heard);
            return passing;
        }

        boolean winsNow(Tally tally) {
            return isFor(now(tally));
        }

        int timesWon(int ofPoints, int n) {
            own.begin(ofPoints);
            int won = 0;
            for (int k = 0; k < n; k++) {
                follow(own, heard);
                boolean is = isFor(own);
                won += is ? 1 : 0;
                push(ofPoints, is);
            }
            return won;
        }

        int firstTurn(int ofPoints) {
            boolean first = wins(ofPoints);
            for (int k = 1; k <= TIMES; k++) {
                push(ofPoints, first);
                follow(own, heard);
                if (isFor(own) != first) {
                    return k;
                }
            }
            return NOTHING;
        }

        int firstUnlawful() {
            for (int k = 0; k < heard && k < HEARINGS; k++) {
                own.begin(points[k]);
                follow(own, k);
                if (isFor(own) != fors[k]) {
                    return k;
                }
            }
            return NOTHING;
        }
    }

    /** Orders of suits, turns of two who bring them, and shams. */
    private static final class Search {
        private final Sitting sitting;
        private final Tally[] tallies = new Tally[SHAM_SETS];
        private final int[] worths = new int[SUITS];
        private final int[] tried = new int[BROUGHT];
        /** The best order found, or the shams. */
        final int[] row = new int[BROUGHT];
        int most = 0;
        int first = NOTHING;

        Search(Sitting theSitting) {
            sitting = theSitting;
            for (int i = 0; i < SHAM_SETS; i++) {
                tallies[i] = new Tally();
            }
        }

        private void prepareSuits(Hall hall) {
            for (int s = 0; s < SUITS; s++) {
                tallies[s].begin(hall.pointsOf(s));
                sitting.follow(tallies[s], sitting.heard);
                worths[s] = hall.worthOf(s);
            }
        }

        void order(Hall hall, int set) {
            prepareSuits(hall);
            most = -1;
            bring(set, 0, 0);
        }

        /** Orders come as rows do, so only one that is better takes the place of another. */
        private void bring(int left, int depth, int won) {
            if (left == 0 || depth >= BROUGHT) {
                if (won > most) {
                    most = won;
                    System.arraycopy(tried, 0, row, 0, BROUGHT);
                }
                return;
            }
            for (int s = 0; s < SUITS; s++) {
                if ((left >> s & 1) == 1) {
                    boolean is = sitting.winsNow(tallies[s]);
                    tried[depth] = s;
                    sitting.push(tallies[s].points, is);
                    bring(left ^ 1 << s, depth + 1, won + (is ? worths[s] : 0));
                    sitting.pop();
                }
            }
        }

        int against(Hall hall, int ours, int theirs) {
            prepareSuits(hall);
            first = NOTHING;
            return turns(ours, theirs, true, 0);
        }

        private int turns(int ours, int theirs, boolean oursNext, int depth) {
            if ((ours | theirs) == 0 || depth >= BROUGHT) {
                return 0;
            }
            boolean us = oursNext ? ours != 0 : theirs == 0;
            int set = us ? ours : theirs;
            int chosen = -1;
            int much = 0;
            for (int s = 0; s < SUITS; s++) {
                if ((set >> s & 1) == 1) {
                    int bit = 1 << s;
                    boolean is = sitting.winsNow(tallies[s]);
                    int gain = is ? worths[s] : 0;
                    sitting.push(tallies[s].points, is);
                    int rest = turns(us ? ours ^ bit : ours, us ? theirs : theirs ^ bit, !us, depth + 1);
                    sitting.pop();
                    int value = us ? rest + gain : rest - gain;
                    if (chosen < 0 || (us ? value > much : value < much)) {
                        chosen = s;
                        much = value;
                    }
                }
            }
            if (depth == 0 && us) {
                first = chosen;
            }
            return much;
        }

        /** How many shams it takes; they stand in the row. */
        int shamsAhead(int points) {
            if (sitting.wins(points)) {
                return 0;
            }
            for (int a = 0; a < SHAM_SETS; a++) {
                tallies[a].begin(a);
                sitting.follow(tallies[a], sitting.heard);
            }
            for (int a = 0; a < SHAM_SETS; a++) {
                if (winsBehind(a)) {
                    row[0] = a;
                    return 1;
                }
            }
            for (int a = 0; a < SHAM_SETS; a++) {
                sitting.push(a, sitting.winsNow(tallies[a]));
                for (int b = 0; b < SHAM_SETS; b++) {
                    if (winsBehind(b)) {
                        row[0] = a;
                        row[1] = b;
                        return 2;
                    }
                }
                sitting.pop();
            }
            return NOTHING;
        }

        /** The sitting's own tally is the suit's here. */
        private boolean winsBehind(int sham) {
            if (sham < 0 || sham >= SHAM_SETS) {
                return false;
            }
            sitting.push(sham, sitting.winsNow(tallies[sham]));
            boolean is = sitting.winsNow(sitting.own);
            sitting.pop();
            return is;
        }
    }

    /** The queue, when coins fall: likelihoods are counted in 256ths, as at most eight coins fall. */
    private static final class Coins {
        private static final int WHOLE = 1 << QUEUE;

        private final Sitting sitting;
        private final Tally[] tallies = new Tally[QUEUE];
        final int[] chances = new int[QUEUE];

        Coins(Sitting theSitting) {
            sitting = theSitting;
            for (int i = 0; i < QUEUE; i++) {
                tallies[i] = new Tally();
            }
        }

        void fall(Hall hall) {
            int many = Math.min(hall.queued, QUEUE);
            for (int k = 0; k < many; k++) {
                chances[k] = 0;
                tallies[k].begin(hall.pointsOf(hall.queue[k]));
                sitting.follow(tallies[k], sitting.heard);
            }
            come(0, many, WHOLE);
        }

        private void come(int k, int many, int likely) {
            if (k < 0 || k >= many || k >= QUEUE) {
                return;
            }
            Tally now = sitting.now(tallies[k]);
            if (sitting.isOpen(now)) {
                settle(k, many, likely / 2, true);
                settle(k, many, likely / 2, false);
            } else {
                settle(k, many, likely, sitting.isFor(now));
            }
        }

        private void settle(int k, int many, int likely, boolean is) {
            if (is) {
                chances[k] += likely;
            }
            sitting.push(tallies[k].points, is);
            come(k + 1, many, likely);
            sitting.pop();
        }

        /** A part of so many 256ths in lowest terms: only twos can be in both. */
        static long part(int above, int part) {
            int over = above;
            int under = WHOLE;
            for (int i = 0; i < QUEUE && (over & 1) == 0; i++) {
                over >>= 1;
                under >>= 1;
            }
            return part == 0 ? over : under;
        }
    }

    /** The acts: a body is the one of a kind, or else of the next kind above that has one. */
    private static final class Deeds {
        static final int ACTS = 3;
        private static final int HEARS = 0, WEIGHS = 1, SAYS = 2;
        /** By kind and act; 0 is none. */
        private static final int[] BODIES = {
            1, 2, 3,
            11, 0, 0,
            0, 21, 0,
            0, 0, 31,
            0, 0, 41,
            51, 0, 0,
            0, 61, 0};
        private static final int DEEPEST = 30;

        final int[] bodies = new int[TRACED];
        int ran = 0;
        private int judge = 0;
        private int kind = 0;
        private int number = 0;

        int perform(int ofJudge, int ofKind, int ofNumber, int act, int x) {
            ran = 0;
            judge = ofJudge;
            kind = ofKind;
            number = ofNumber;
            return run(kind, act, x, 0);
        }

        private int run(int from, int act, int x, int depth) {
            int holder = holderFrom(from, act);
            if (holder < 0 || depth > DEEPEST) {
                return 0;
            }
            int body = BODIES[holder * ACTS + act];
            int above = ABOVE[holder];
            int deeper = depth + 1;
            note(body);
            switch (body) {
                case 1:
                    return x + judge;
                case 2:
                    return run(kind, HEARS, x, deeper) - number;
                case 3:
                    return run(kind, WEIGHS, x, deeper) * 2;
                case 11:
                    return run(above, HEARS, x * 3, deeper);
                case 21:
                    return -run(above, WEIGHS, x, deeper);
                case 31:
                    return run(above, SAYS, x, deeper) ^ 7;
                case 41:
                    return run(above, SAYS, x - 1, deeper) + run(kind, HEARS, 2, deeper);
                case 51:
                    return run(above, HEARS, x, deeper) ^ judge;
                default:
                    return run(above, WEIGHS, x, deeper) + number;
            }
        }

        private static int holderFrom(int from, int act) {
            if (act < 0 || act >= ACTS) {
                return -1;
            }
            int holder = from;
            for (int step = 0; step < KINDS && holder >= 0 && holder < KINDS; step++) {
                if (BODIES[holder * ACTS + act] != 0) {
                    return holder;
                }
                holder = ABOVE[holder];
            }
            return -1;
        }

        private void note(int body) {
            if (ran >= 0 && ran < TRACED) {
                bodies[ran] = body;
            }
            ran++;
        }
    }
}
