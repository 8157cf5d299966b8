/** Who gets what when a firm is sold. The words in capitals are those of the document. */
public final class ExitFalls {
    public static final int NONE = -1;

    private static final int NO_SUCH = -2;
    private static final int NOT_DILUTED = -1000000000;

    private static final int MOST_AMOUNT = 9999999;
    private static final int MOST_SHARES = 9999;
    private static final int MOST_TIMES = 400;
    private static final int MOST_RANK = 5;
    private static final int MOST_WEIGHT = 1000;
    private static final int MOST_YEARS = 20;
    private static final int MOST_RETURN = 999;
    private static final int MOST_HOLDERS = 12;
    private static final int MOST_CLASSES = 6;
    private static final int MOST_BYTES = 700;
    private static final int MOST_GUESSES = 8;
    private static final int MOST_ACTS = 12;

    private static final int COMMON = 0;
    private static final int OPTION = 1;
    private static final int CLASS = 2;

    /** What is told of a HOLDER, by the numbers that holder() takes. */
    private static final int KIND = 0;
    private static final int SHARES = 1;
    private static final int PRICE = 2;
    private static final int RANK = 3;
    private static final int TIMES = 4;
    private static final int RATIO = 5;
    private static final int SHARING = 6;
    private static final int CAP = 7;
    private static final int RATE = 8;
    private static final int YEARS = 9;
    private static final int FACTS = 10;
    private static final int PREF = 10;
    private static final int CARVE = 11;

    private static final int NO_TOKEN = 1;
    private static final int MISPLACED = 2;
    private static final int TOLD_ALREADY = 3;
    private static final int NO_NUMBER = 4;
    private static final int TOO_MANY = 5;

    private static final int AN_END = 0;
    private static final int A_WORD = 1;
    private static final int A_NUMBER = 2;
    private static final int A_SIGN = 3;
    private static final int NOTHING_KNOWN = 4;

    private static final int SALE_ACT = 0;
    private static final int GUESS_ACT = 1;
    private static final int GRANT_ACT = 2;
    private static final int WAIVE_ACT = 3;
    private static final int RANK_ACT = 4;

    /** The first numbers by which sale() is asked for HOLDERS. */
    private static final int DEALT_TO = 10;
    private static final int HELD_FOR = 100;

    private final Tape tape;
    private final Reader reader;
    private final Firm firm;
    private final Fall fall;
    private final Breaks breakList;
    private final Game game;
    private final Sale deal;
    private final Guesses guesses;
    private final Acts acts;

    public ExitFalls() {
        tape = new Tape();
        reader = new Reader(tape);
        firm = new Firm();
        fall = new Fall();
        breakList = new Breaks();
        game = new Game();
        deal = new Sale();
        guesses = new Guesses();
        acts = new Acts();
    }

    // ---- the TEXT

    public int feed(int a, int b, int c, int d, int e) {
        if (tape.length + 20 > MOST_BYTES) {
            return NONE;
        }
        tape.put(a);
        tape.put(b);
        tape.put(c);
        tape.put(d);
        tape.put(e);
        return tape.length;
    }

    public int end(int n) {
        return tape.cut(n) ? n : NONE;
    }

    public int text() {
        boolean good = reader.readAll();
        tape.cut(0);
        if (!good) {
            return NONE;
        }
        firm.become(reader.draft);
        deal.closed = false;
        guesses.count = 0;
        acts.count = 0;
        return firm.count;
    }

    public int fault(int what) {
        if (what == 0) {
            return reader.fault;
        }
        return what == 1 ? reader.place : NONE;
    }

    public int about(int what) {
        switch (what) {
            case 0: return firm.count;
            case 1: return firm.carve;
            case 2: return acts.count;
            case 3: return tape.length;
            case 4: return guesses.count;
            case 5: return firm.waived;
            default: return NONE;
        }
    }

    public int holder(int h, int what) {
        if (!firm.isHolder(h) || what < 0) {
            return NO_SUCH;
        }
        int kind = firm.fact(h, KIND);
        int last = kind == COMMON ? SHARES : kind == OPTION ? PRICE : PREF;
        if (what > last) {
            return NO_SUCH;
        }
        return what == PREF ? firm.prefOf(h) : firm.fact(h, what);
    }

    // ---- what falls

    public long has(int h, int amount, int what) {
        if (!isAsked(h, amount) || !isAboveOrBelow(what)) {
            return NO_SUCH;
        }
        pour(amount);
        return Numbers.lowest(fall.aboveOf(h), fall.below, what);
    }

    public int state(int h, int amount) {
        if (!isAsked(h, amount)) {
            return NO_SUCH;
        }
        pour(amount);
        return fall.stateOf(firm, h);
    }

    public int paid(int h, int amount) {
        return isAsked(h, amount) ? unitsFor(h, amount) : NO_SUCH;
    }

    public long level(int amount, int what) {
        if (!isAmount(amount) || !isAboveOrBelow(what) || firm.count == 0) {
            return NO_SUCH;
        }
        pour(amount);
        return Numbers.lowest(fall.levelAbove, fall.levelBelow, what);
    }

    public int least(int h, int n) {
        if (!firm.isHolder(h) || !isUnits(n)) {
            return NO_SUCH;
        }
        int amount = firstAmount(h, n * 100L, 1, false);
        return amount <= MOST_AMOUNT ? amount : NONE;
    }

    public int flat(int h, int amount, int what) {
        if (!isAsked(h, amount) || !isAboveOrBelow(what)) {
            return NO_SUCH;
        }
        pour(amount);
        long above = fall.aboveOf(h);
        long below = fall.below;
        return what == 0 ? firstAmount(h, above, below, false) : firstAmount(h, above, below, true) - 1;
    }

    public int unpaid(int amount) {
        if (!isAmount(amount)) {
            return NO_SUCH;
        }
        fall.arrange(firm, false, 0);
        int rank = fall.firstUnpaid(firm.fallsOf(amount) * 100L);
        return rank <= MOST_RANK ? rank : NONE;
    }

    public int wants(int h, int amount, int n) {
        if (!isAsked(h, amount) || !firm.isClass(h) || !isUnits(n)) {
            return NO_SUCH;
        }
        int told = firm.fact(h, TIMES);
        int low = 0;
        int high = MOST_TIMES + 1;
        // a class never has less by more TIMES, so halving finds the least
        for (int i = 0; i < 32 && low < high; i++) {
            int middle = (low + high) / 2;
            firm.put(h, TIMES, middle);
            pour(amount);
            if (fall.reaches(h, n * 100L, 1, false)) {
                high = middle;
            } else {
                low = middle + 1;
            }
        }
        firm.put(h, TIMES, told);
        return low <= MOST_TIMES ? low : NONE;
    }

    public int dilutes(int h, int amount, int other, int n) {
        if (!isAsked(h, amount) || !firm.takesShares(other, n)) {
            return NOT_DILUTED;
        }
        int now = unitsFor(h, amount);
        int shares = firm.fact(other, SHARES);
        firm.put(other, SHARES, shares + n);
        int then = unitsFor(h, amount);
        firm.put(other, SHARES, shares);
        return now - then;
    }

    public int prefers(int amount, int other) {
        return isAmount(amount) && isAmount(other) ? thoseWithMore(amount, other) : NO_SUCH;
    }

    public int votes(int set) {
        return votesTogether(set);
    }

    public int passes(int amount, int other) {
        if (!isAmount(amount) || !isAmount(other)) {
            return NO_SUCH;
        }
        int willing = thoseWithMore(amount, other);
        return votesTogether(willing) > votesTogether(~willing) ? 1 : 0;
    }

    // ---- BREAKS

    public long breaks(int k, int what) {
        fall.arrange(firm, false, 0);
        breakList.list(fall);
        if (k == NONE) {
            return breakList.count;
        }
        if (k < 0 || k >= breakList.count || !isAboveOrBelow(what)) {
            return NO_SUCH;
        }
        return what == 0 ? breakList.above[k] : breakList.below[k];
    }

    public long part(int h, int k, int what) {
        if (!firm.isHolder(h) || k < 0 || !isAboveOrBelow(what)) {
            return NO_SUCH;
        }
        fall.arrange(firm, false, 0);
        breakList.list(fall);
        if (k > breakList.count) {
            return NO_SUCH;
        }
        breakList.findPart(fall, h, k);
        return Numbers.lowest(breakList.partAbove, breakList.partBelow, what);
    }

    // ---- CHOICES

    public long chosen(int set, int h, int amount, int what) {
        if (!isAsked(h, amount) || !isAboveOrBelow(what)) {
            return NO_SUCH;
        }
        fall.arrange(firm, true, set);
        fall.pour(firm.fallsOf(amount) * 100L);
        return Numbers.lowest(fall.aboveOf(h), fall.below, what);
    }

    public int steady(int set, int amount) {
        if (!isAmount(amount)) {
            return NO_SUCH;
        }
        game.gather(firm);
        int row = game.rowOf(set);
        game.playRound(firm, fall, row, firm.fallsOf(amount) * 100L);
        return game.isSteady(row) ? 1 : 0;
    }

    public int steadies(int amount, int k) {
        if (!isAmount(amount)) {
            return NO_SUCH;
        }
        game.gather(firm);
        game.playAll(firm, fall, firm.fallsOf(amount) * 100L);
        return k == NONE ? game.countSteady() : game.steadySet(k);
    }

    // ---- SALE

    public int close(int amount, int held) {
        if (!isAmount(amount) || held < 0 || held > 100) {
            return NONE;
        }
        acts.keepSale(deal);
        deal.closeBy(amount, held);
        return deal.dealt;
    }

    public int release(int n, boolean lost) {
        if (!deal.closed || n < 1 || n > deal.held) {
            return NONE;
        }
        acts.keepSale(deal);
        deal.letGo(n, lost);
        return deal.held;
    }

    public int sale(int what) {
        if (!deal.closed) {
            return NO_SUCH;
        }
        switch (what) {
            case 0: return deal.amount;
            case 1: return deal.held;
            case 2: return deal.dealt;
            case 3: return deal.lost;
            default: return saleOf(what);
        }
    }

    // ---- GUESSES, worth

    public int guess(int amount, int weight) {
        if (!isAmount(amount) || weight < 1 || weight > MOST_WEIGHT || guesses.count >= MOST_GUESSES) {
            return NONE;
        }
        acts.keep(GUESS_ACT, 0, 0);
        guesses.add(amount, weight);
        return guesses.count;
    }

    public long mean(int h) {
        if (!firm.isHolder(h)) {
            return NO_SUCH;
        }
        double sum = 0.0;
        int weights = 0;
        for (int i = 0; i < guesses.count; i++) {
            pour(guesses.amounts[i]);
            sum = sum + (double) guesses.weights[i] * Numbers.asDouble(fall.aboveOf(h), fall.below);
            weights += guesses.weights[i];
        }
        return weights > 0 ? Numbers.bitsOfDouble(sum / (double) weights) : 0L;
    }

    public int multiple(int h, int amount) {
        if (!isAsked(h, amount) || !firm.isClass(h)) {
            return NO_SUCH;
        }
        pour(amount);
        float worth = Numbers.asFloat(fall.aboveOf(h), fall.below);
        int cost = firm.costOf(h);
        return cost > 0 ? Numbers.bitsOfFloat(worth / (float) cost) : NO_SUCH;
    }

    public int yields(int h, int amount, int y) {
        if (!isAsked(h, amount) || !firm.isClass(h) || y < 1 || y > MOST_YEARS) {
            return NO_SUCH;
        }
        pour(amount);
        double worth = Numbers.asDouble(fall.aboveOf(h), fall.below);
        double cost = (double) firm.costOf(h);
        int low = NONE;
        int high = MOST_RETURN;
        for (int i = 0; i < 32 && low < high; i++) {
            int middle = low + (high - low + 1) / 2;
            if (Numbers.grown(cost, middle, y) <= worth) {
                low = middle;
            } else {
                high = middle - 1;
            }
        }
        return low;
    }

    // ---- acts

    public int grant(int h, int n) {
        if (!firm.takesShares(h, n)) {
            return NONE;
        }
        int shares = firm.fact(h, SHARES);
        acts.keep(GRANT_ACT, h, shares);
        firm.put(h, SHARES, shares + n);
        return shares + n;
    }

    public boolean waive(int h, boolean is) {
        if (!firm.isClass(h) || firm.isWaived(h) == is) {
            return false;
        }
        acts.keep(WAIVE_ACT, h, firm.waived);
        firm.waived ^= 1 << h;
        return true;
    }

    public int rank(int h, int rank) {
        if (!firm.isClass(h) || rank < 0 || rank > MOST_RANK || firm.fact(h, RANK) == rank) {
            return NONE;
        }
        int before = firm.fact(h, RANK);
        acts.keep(RANK_ACT, h, before);
        firm.put(h, RANK, rank);
        return before;
    }

    public boolean undo() {
        if (acts.count == 0) {
            return false;
        }
        int h = acts.latest(Acts.WHO);
        int before = acts.latest(Acts.BEFORE);
        switch (acts.latest(Acts.WHICH)) {
            case SALE_ACT: acts.giveBackSale(deal); break;
            case GUESS_ACT: guesses.dropLatest(); break;
            case GRANT_ACT: firm.put(h, SHARES, before); break;
            case WAIVE_ACT: firm.waived = before; break;
            default: firm.put(h, RANK, before); break;
        }
        acts.dropLatest();
        return true;
    }

    // ---- what several calls need

    private static boolean isAmount(int amount) {
        return amount >= 0 && amount <= MOST_AMOUNT;
    }

    private static boolean isUnits(int n) {
        return n >= 1 && n <= MOST_AMOUNT;
    }

    private static boolean isAboveOrBelow(int what) {
        return what == 0 || what == 1;
    }

    private boolean isAsked(int h, int amount) {
        return firm.isHolder(h) && isAmount(amount);
    }

    private void pour(int amount) {
        fall.arrange(firm, false, 0);
        fall.pour(firm.fallsOf(amount) * 100L);
    }

    private int unitsFor(int h, int amount) {
        pour(amount);
        return fall.unitsOf(h, firm.fallsOf(amount));
    }

    /** The least AMOUNT by which a HOLDER has a fraction (more: has more than it); one too great if by none. */
    private int firstAmount(int h, long above, long below, boolean more) {
        fall.arrange(firm, false, 0);
        int low = 0;
        int high = MOST_AMOUNT + 1;
        // nobody has less by a greater AMOUNT, so halving finds the least
        for (int i = 0; i < 32 && low < high; i++) {
            int middle = (low + high) / 2;
            fall.pour(firm.fallsOf(middle) * 100L);
            if (fall.reaches(h, above, below, more)) {
                high = middle;
            } else {
                low = middle + 1;
            }
        }
        return low;
    }

    private int thoseWithMore(int amount, int other) {
        int set = 0;
        pour(other);
        fall.remember();
        pour(amount);
        for (int h = 0; h < firm.count; h++) {
            if (fall.hasMoreThanRemembered(h)) {
                set |= 1 << h;
            }
        }
        return set;
    }

    private int votesTogether(int set) {
        int sum = 0;
        for (int h = 0; h < firm.count; h++) {
            if ((set >> h & 1) == 1) {
                sum += firm.votesOf(h);
            }
        }
        return sum;
    }

    private int saleOf(int what) {
        if (what >= DEALT_TO && what < DEALT_TO + firm.count) {
            return unitsFor(what - DEALT_TO, deal.dealt);
        }
        if (what >= HELD_FOR && what < HELD_FOR + firm.count) {
            int h = what - HELD_FOR;
            return unitsFor(h, deal.dealt + deal.held) - unitsFor(h, deal.dealt);
        }
        return NO_SUCH;
    }

    /** The bytes that were fed, and the TOKEN of them that is looked at. */
    private static final class Tape {
        private static final int MOST_LETTERS = 7;
        private static final int MOST_DIGITS = 4;

        private final byte[] bytes = new byte[MOST_BYTES];
        int length;
        private int next;
        int start;
        int token;
        int number;
        long word;

        /** Four bytes, the highest first. */
        void put(int four) {
            for (int shift = 24; shift >= 0 && length < MOST_BYTES; shift -= 8) {
                bytes[length] = (byte) (four >>> shift);
                length++;
            }
        }

        boolean cut(int n) {
            if (n < 0 || n > length) {
                return false;
            }
            length = n;
            return true;
        }

        void rewind() {
            next = 0;
            scan();
        }

        /** Looks at the next TOKEN. */
        void scan() {
            while (next < length && isBlank(bytes[next])) {
                next++;
            }
            start = next;
            if (next >= length) {
                token = AN_END;
            } else if (isLetter(bytes[next])) {
                scanWord();
            } else if (isDigit(bytes[next])) {
                scanNumber();
            } else {
                token = bytes[next] == ';' ? A_SIGN : NOTHING_KNOWN;
                next++;
            }
        }

        private void scanWord() {
            word = 0;
            for (; next < length && isLetter(bytes[next]); next++) {
                word = withLetter(word, bytes[next]);
            }
            token = next - start <= MOST_LETTERS ? A_WORD : NOTHING_KNOWN;
        }

        private void scanNumber() {
            number = 0;
            for (; next < length && isDigit(bytes[next]); next++) {
                number = number * 10 + (bytes[next] - '0');
            }
            boolean touched = next < length && isLetter(bytes[next]);
            token = next - start <= MOST_DIGITS && !touched ? A_NUMBER : NOTHING_KNOWN;
        }

        /** Words of seven letters at most, as numbers: unlike words are unlike numbers. */
        static long withLetter(long sum, int letter) {
            return sum * 32 + (letter - 'a' + 1);
        }

        private static boolean isBlank(int sign) {
            return sign == 32 || sign == 10;
        }

        private static boolean isLetter(int sign) {
            return sign >= 'a' && sign <= 'z';
        }

        private static boolean isDigit(int sign) {
            return sign >= '0' && sign <= '9';
        }
    }

    /** Reads the TAPE as a TEXT into a draft, so that a FAULT leaves all else as it is. */
    private static final class Reader {
        /** Those that begin a line come first, in the order of the kinds of HOLDERS. */
        private static final String KEPT = "common option class carve at rank times ratio sharing cap yearly ";
        private static final int KEPT_WORDS = 11;
        private static final int CARVE_WORD = 3;
        private static final int AT_WORD = 4;
        private static final int RANK_WORD = 5;
        private static final int TIMES_WORD = 6;
        private static final int RATIO_WORD = 7;
        private static final int SHARING_WORD = 8;
        private static final int CAP_WORD = 9;
        private static final int YEARLY_WORD = 10;

        /** What stands behind a line's first word, four numbers for each: what it is, and
         *  of a number: of which fact, its least, its most;
         *  of a word: which, how many behind it are left out with it (0: it must stand). */
        private static final int WIDTH = 4;
        private static final int A_NAME = 5;
        private static final int[] COMMON_LINE = {
            A_NAME, 0, 0, 0, A_NUMBER, SHARES, 1, MOST_SHARES, A_SIGN, 0, 0, 0 };
        private static final int[] OPTION_LINE = {
            A_NAME, 0, 0, 0, A_NUMBER, SHARES, 1, MOST_SHARES,
            A_WORD, AT_WORD, 0, 0, A_NUMBER, PRICE, 1, 999, A_SIGN, 0, 0, 0 };
        private static final int[] CLASS_LINE = {
            A_NAME, 0, 0, 0, A_NUMBER, SHARES, 1, MOST_SHARES,
            A_WORD, AT_WORD, 0, 0, A_NUMBER, PRICE, 1, 99,
            A_WORD, RANK_WORD, 0, 0, A_NUMBER, RANK, 0, MOST_RANK,
            A_WORD, TIMES_WORD, 1, 0, A_NUMBER, TIMES, 0, MOST_TIMES,
            A_WORD, RATIO_WORD, 1, 0, A_NUMBER, RATIO, 1, 400,
            A_WORD, SHARING_WORD, 2, 0, A_WORD, CAP_WORD, 1, 0, A_NUMBER, CAP, 0, 2000,
            A_WORD, YEARLY_WORD, 2, 0, A_NUMBER, RATE, 0, 30, A_NUMBER, YEARS, 0, MOST_YEARS,
            A_SIGN, 0, 0, 0 };
        private static final int[] CARVE_LINE = { A_NUMBER, CARVE, 0, 50, A_SIGN, 0, 0, 0 };

        private final Tape tape;
        private final long[] kept = new long[KEPT_WORDS];
        private final long[] names = new long[MOST_HOLDERS];
        private boolean carved;
        final Firm draft = new Firm();
        int fault;
        int place = NONE;

        Reader(Tape read) {
            tape = read;
            int word = 0;
            for (int i = 0; i < KEPT.length() && word < KEPT_WORDS; i++) {
                if (KEPT.charAt(i) == ' ') {
                    word++;
                } else {
                    kept[word] = Tape.withLetter(kept[word], KEPT.charAt(i));
                }
            }
        }

        boolean readAll() {
            draft.clear();
            carved = false;
            fault = 0;
            place = NONE;
            tape.rewind();
            for (int i = 0; i < MOST_BYTES && tape.token != AN_END; i++) {
                if (!readLine()) {
                    return false;
                }
            }
            return true;
        }

        private boolean readLine() {
            int first = keptWord();
            if (first == NONE || first > CARVE_WORD || first == CARVE_WORD && carved) {
                return refuse(MISPLACED);
            }
            if (first == CARVE_WORD) {
                carved = true;
            } else if (draft.countOf(first) >= mostOf(first) || !draft.add(first)) {
                return refuse(TOO_MANY);
            }
            tape.scan();
            return readItems(lineOf(first));
        }

        private static int mostOf(int kind) {
            return kind == CLASS ? MOST_CLASSES : 3;
        }

        private static int[] lineOf(int first) {
            switch (first) {
                case COMMON: return COMMON_LINE;
                case OPTION: return OPTION_LINE;
                case CLASS: return CLASS_LINE;
                default: return CARVE_LINE;
            }
        }

        private boolean readItems(int[] line) {
            int next = 0;
            for (int at = 0; at + WIDTH <= line.length; at = next) {
                next = at + WIDTH;
                boolean isWord = line[at] == A_WORD;
                if (isWord && line[at + 2] > 0 && keptWord() != line[at + 1]) {
                    next += line[at + 2] * WIDTH;
                    continue;
                }
                boolean good = line[at] == A_NUMBER ? readNumber(line[at + 1], line[at + 2], line[at + 3])
                    : line[at] == A_NAME ? readName()
                    : isWord ? readWord(line[at + 1]) : readSign();
                if (!good) {
                    return false;
                }
                tape.scan();
            }
            return true;
        }

        private boolean readName() {
            if (tape.token != A_WORD || keptWord() != NONE) {
                return refuse(MISPLACED);
            }
            int mine = draft.count - 1;
            for (int h = 0; h < mine && h < MOST_HOLDERS; h++) {
                if (names[h] == tape.word) {
                    return refuse(TOLD_ALREADY);
                }
            }
            if (mine >= 0 && mine < MOST_HOLDERS) {
                names[mine] = tape.word;
            }
            return true;
        }

        private boolean readNumber(int what, int least, int most) {
            if (tape.token != A_NUMBER) {
                return refuse(MISPLACED);
            }
            if (tape.number < least || tape.number > most) {
                return refuse(NO_NUMBER);
            }
            if (what == CARVE) {
                draft.carve = tape.number;
            } else {
                draft.put(draft.count - 1, what, tape.number);
            }
            return true;
        }

        private boolean readWord(int which) {
            if (keptWord() != which) {
                return refuse(MISPLACED);
            }
            if (which == SHARING_WORD) {
                draft.put(draft.count - 1, SHARING, 1);
            }
            return true;
        }

        private boolean readSign() {
            return tape.token == A_SIGN || refuse(MISPLACED);
        }

        /** Which of the words that no HOLDER can be named by is looked at; NONE if none of them. */
        private int keptWord() {
            for (int i = 0; tape.token == A_WORD && i < KEPT_WORDS; i++) {
                if (kept[i] == tape.word) {
                    return i;
                }
            }
            return NONE;
        }

        private boolean refuse(int why) {
            // what is no TOKEN at all is the least FAULT at its place
            fault = tape.token == NOTHING_KNOWN ? NO_TOKEN : why;
            place = tape.start;
            return false;
        }
    }

    /** The HOLDERS, and what is carved out ahead of them. */
    private static final class Firm {
        int count;
        int carve;
        int waived;
        private final int[] facts = new int[MOST_HOLDERS * FACTS];

        void clear() {
            count = 0;
            carve = 0;
            waived = 0;
        }

        void become(Firm other) {
            count = other.count;
            carve = other.carve;
            waived = other.waived;
            System.arraycopy(other.facts, 0, facts, 0, facts.length);
        }

        /** One HOLDER more, with what it has where nothing is told. */
        boolean add(int kind) {
            if (count >= MOST_HOLDERS) {
                return false;
            }
            int h = count;
            count++;
            for (int what = 0; what < FACTS; what++) {
                put(h, what, 0);
            }
            put(h, KIND, kind);
            put(h, TIMES, 100);
            put(h, RATIO, 100);
            put(h, CAP, NONE);
            return true;
        }

        boolean isHolder(int h) {
            return h >= 0 && h < count;
        }

        int fact(int h, int what) {
            return h >= 0 && h < count && what >= 0 && what < FACTS ? facts[h * FACTS + what] : 0;
        }

        void put(int h, int what, int value) {
            if (isHolder(h) && what >= 0 && what < FACTS) {
                facts[h * FACTS + what] = value;
            }
        }

        int countOf(int kind) {
            int sum = 0;
            for (int h = 0; h < count; h++) {
                sum += fact(h, KIND) == kind ? 1 : 0;
            }
            return sum;
        }

        boolean isClass(int h) {
            return h >= 0 && h < count && facts[h * FACTS + KIND] == CLASS;
        }

        boolean isWaived(int h) {
            return h >= 0 && h < count && (waived >> h & 1) == 1;
        }

        /** A class that SHARES on without CAP never gains by turning. */
        boolean canTurn(int h) {
            return isClass(h) && (fact(h, SHARING) == 0 || fact(h, CAP) != NONE);
        }

        boolean takesShares(int h, int n) {
            return isHolder(h) && n >= 1 && n <= MOST_SHARES - fact(h, SHARES);
        }

        int prefOf(int h) {
            if (!isClass(h) || isWaived(h)) {
                return 0;
            }
            return fact(h, PRICE) * (fact(h, TIMES) + fact(h, RATE) * fact(h, YEARS));
        }

        /** The most that a SHARE of a class that can TURN has unturned: TOP, or PREF of one that is not SHARING. */
        int lidOf(int h, int pref) {
            return fact(h, SHARING) == 0 ? pref : Math.max(pref, fact(h, PRICE) * fact(h, CAP));
        }

        int costOf(int h) {
            return fact(h, PRICE) * fact(h, SHARES) * 100;
        }

        int votesOf(int h) {
            return fact(h, KIND) == OPTION ? 0 : fact(h, SHARES) * fact(h, RATIO) / 100;
        }

        int fallsOf(int amount) {
            return amount - amount * carve / 100;
        }
    }

    /**
     * What each HOLDER has by the LEVEL v: so much fixed, and v times its slope by 100. Steps say
     * where that changes: where v times a ratio by 100 has risen to so much.
     */
    private static final class Curves {
        private static final int MOST_STEPS = 2 * MOST_HOLDERS;

        int count;
        final long[] startFixed = new long[MOST_HOLDERS];
        private final long[] startSlope = new long[MOST_HOLDERS];
        final long[] fixed = new long[MOST_HOLDERS];
        final long[] slope = new long[MOST_HOLDERS];
        long allFixed;
        long allSlope;
        int steps;
        private final int[] order = new int[MOST_STEPS];
        private final int[] who = new int[MOST_STEPS];
        private final int[] rise = new int[MOST_STEPS];
        private final int[] ratio = new int[MOST_STEPS];
        private final long[] fixedBy = new long[MOST_STEPS];
        private final long[] slopeBy = new long[MOST_STEPS];

        void clear() {
            count = 0;
            steps = 0;
        }

        void addHolder(long fixedAtFirst, long slopeAtFirst) {
            if (count < MOST_HOLDERS) {
                startFixed[count] = fixedAtFirst;
                startSlope[count] = slopeAtFirst;
                count++;
            }
        }

        /** A step of the HOLDER that was added last; steps are kept in the order of their LEVELS. */
        void addStep(int riseTo, int itsRatio, long fixedMore, long slopeMore) {
            if (steps >= MOST_STEPS || count == 0) {
                return;
            }
            who[steps] = count - 1;
            rise[steps] = riseTo;
            ratio[steps] = itsRatio;
            fixedBy[steps] = fixedMore;
            slopeBy[steps] = slopeMore;
            int at = steps;
            for (; at > 0 && isLater(order[at - 1], steps); at--) {
                order[at] = order[at - 1];
            }
            order[at] = steps;
            steps++;
        }

        private boolean isLater(int step, int other) {
            return (long) rise[step] * ratio[other] > (long) rise[other] * ratio[step];
        }

        /** Back to the LEVEL 0, ahead of all steps. */
        void restart() {
            allFixed = 0;
            allSlope = 0;
            for (int h = 0; h < count; h++) {
                fixed[h] = startFixed[h];
                slope[h] = startSlope[h];
                allFixed += startFixed[h];
                allSlope += startSlope[h];
            }
        }

        int ratioAt(int i) {
            return i >= 0 && i < steps ? ratio[order[i]] : 1;
        }

        /** What all have together at the i-th step's LEVEL, times its ratio; the steps before it are taken. */
        long totalAt(int i) {
            if (i < 0 || i >= steps) {
                return 0;
            }
            int step = order[i];
            return allFixed * ratio[step] + allSlope * rise[step];
        }

        void take(int i) {
            if (i < 0 || i >= steps) {
                return;
            }
            int step = order[i];
            int h = who[step];
            if (h < 0 || h >= count) {
                return;
            }
            fixed[h] += fixedBy[step];
            slope[h] += slopeBy[step];
            allFixed += fixedBy[step];
            allSlope += slopeBy[step];
        }

        /** Takes the steps at which all have less together than a fraction (through: or just so much). */
        void sweep(long above, long below, boolean through) {
            restart();
            for (int i = 0; i < steps; i++) {
                long there = totalAt(i) * below;
                long asked = above * ratioAt(i);
                if (there > asked || there == asked && !through) {
                    return;
                }
                take(i);
            }
        }
    }

    /** What FALLS to each, in hundredths: fractions above[h] by below, which is the same for all. */
    private static final class Fall {
        final Curves curves = new Curves();
        private final int[] ranks = new int[MOST_HOLDERS];
        final long[] rankPrefs = new long[MOST_RANK + 1];
        private long allPrefs;
        private final long[] above = new long[MOST_HOLDERS];
        long below = 1;
        long levelAbove;
        long levelBelow = 1;
        private final long[] oldAbove = new long[MOST_HOLDERS];
        private long oldBelow = 1;

        /** Told: the classes of a set TURN, and no others; else each by itself, when it has more by it. */
        void arrange(Firm firm, boolean told, int set) {
            curves.clear();
            allPrefs = 0;
            for (int rank = 0; rank <= MOST_RANK; rank++) {
                rankPrefs[rank] = 0;
            }
            for (int h = 0; h < firm.count && h < MOST_HOLDERS; h++) {
                ranks[h] = firm.fact(h, RANK);
                if (firm.isClass(h)) {
                    addClass(firm, h, told, (set >> h & 1) == 1);
                } else {
                    addOther(firm, h);
                }
            }
        }

        private void addOther(Firm firm, int h) {
            long shares = firm.fact(h, SHARES);
            long slope = shares * 100;
            if (firm.fact(h, KIND) == COMMON) {
                curves.addHolder(0, slope);
                return;
            }
            int strike = firm.fact(h, PRICE) * 100;
            curves.addHolder(0, 0);
            curves.addStep(strike, 100, -shares * strike, slope);
        }

        private void addClass(Firm firm, int h, boolean told, boolean inSet) {
            long shares = firm.fact(h, SHARES);
            int ratio = firm.fact(h, RATIO);
            long slope = shares * ratio;
            boolean canTurn = firm.canTurn(h);
            if (told && inSet && canTurn) {
                curves.addHolder(0, slope);
                return;
            }
            int pref = firm.prefOf(h);
            curves.addHolder(shares * pref, slope);
            countPrefs(ranks[h], shares * pref);
            if (!canTurn) {
                return;
            }
            int lid = firm.lidOf(h, pref);
            curves.addStep(lid - pref, ratio, shares * (lid - pref), -slope);
            if (!told) {
                curves.addStep(lid, ratio, -shares * lid, slope);
            }
        }

        private void countPrefs(int rank, long prefs) {
            allPrefs += prefs;
            if (rank >= 0 && rank <= MOST_RANK) {
                rankPrefs[rank] += prefs;
            }
        }

        void pour(long falls) {
            levelAbove = 0;
            levelBelow = 1;
            if (falls <= allPrefs) {
                pourByRanks(falls);
            } else {
                pourByLevel(falls);
            }
        }

        private void pourByRanks(long falls) {
            int open = firstUnpaid(falls);
            long left = falls;
            for (int rank = 0; rank < open; rank++) {
                left -= rankPrefs[rank];
            }
            below = open <= MOST_RANK && left > 0 ? rankPrefs[open] : 1;
            for (int h = 0; h < curves.count; h++) {
                long prefs = curves.startFixed[h];
                above[h] = ranks[h] < open ? prefs * below : ranks[h] == open ? prefs * left : 0;
            }
        }

        private void pourByLevel(long falls) {
            curves.sweep(falls, 1, false);
            // no slope is left when all who don't TURN are at their tops: then what is over nobody has
            boolean open = curves.allSlope > 0;
            long rest = open ? falls - curves.allFixed : 0;
            below = open ? curves.allSlope : 1;
            levelAbove = rest * 100;
            levelBelow = below;
            for (int h = 0; h < curves.count; h++) {
                above[h] = curves.fixed[h] * below + curves.slope[h] * rest;
            }
        }

        /** The first RANK whose PREFS are not paid wholly; one behind the last if there is none. */
        int firstUnpaid(long falls) {
            long left = falls;
            for (int rank = 0; rank <= MOST_RANK; rank++) {
                if (rankPrefs[rank] > left) {
                    return rank;
                }
                left -= rankPrefs[rank];
            }
            return MOST_RANK + 1;
        }

        int rankOf(int h) {
            return h >= 0 && h < MOST_HOLDERS ? ranks[h] : NONE;
        }

        long aboveOf(int h) {
            return h >= 0 && h < curves.count ? above[h] : 0;
        }

        boolean reaches(int h, long askedAbove, long askedBelow, boolean more) {
            int sign = Numbers.compareFractions(aboveOf(h), below, askedAbove, askedBelow);
            return sign > 0 || sign == 0 && !more;
        }

        void remember() {
            System.arraycopy(above, 0, oldAbove, 0, above.length);
            oldBelow = below;
        }

        boolean hasMoreThanRemembered(int h) {
            return h >= 0 && h < MOST_HOLDERS && reaches(h, oldAbove[h], oldBelow, true);
        }

        int stateOf(Firm firm, int h) {
            if (aboveOf(h) == 0) {
                return 0;
            }
            if (!firm.isClass(h)) {
                return 4;
            }
            if (levelAbove == 0) {
                return 1;
            }
            if (!firm.canTurn(h)) {
                return 2;
            }
            long unit = levelBelow * 100;
            long byLevel = levelAbove * firm.fact(h, RATIO);
            int prefOfShare = firm.prefOf(h);
            long pref = prefOfShare * unit;
            long lid = firm.lidOf(h, prefOfShare) * unit;
            if (byLevel > lid) {
                return 4;
            }
            if (lid == pref) {
                return 1;
            }
            return pref + byLevel >= lid ? 3 : 2;
        }

        /** What a HOLDER is PAID in whole units, of so many that FALL. */
        int unitsOf(int h, int falls) {
            long unit = below * 100;
            if (unit <= 0) {
                return 0;
            }
            long mine = aboveOf(h) % unit;
            long left = falls;
            int ahead = 0;
            for (int i = 0; i < curves.count; i++) {
                long cut = above[i] % unit;
                left -= above[i] / unit;
                ahead += cut > mine || cut == mine && i < h ? 1 : 0;
            }
            return (int) (aboveOf(h) / unit) + (ahead < left ? 1 : 0);
        }
    }

    /** BREAKS, and the PARTS between them. */
    private static final class Breaks {
        private static final int MOST_BREAKS = MOST_RANK + 1 + 2 * MOST_HOLDERS;

        final long[] above = new long[MOST_BREAKS];
        final long[] below = new long[MOST_BREAKS];
        int count;
        private int paying;
        long partAbove;
        long partBelow = 1;

        void list(Fall fall) {
            count = 0;
            long sum = 0;
            for (int rank = 0; rank <= MOST_RANK; rank++) {
                sum += fall.rankPrefs[rank];
                add(sum, 1);
            }
            paying = count;
            Curves curves = fall.curves;
            curves.restart();
            for (int i = 0; i < curves.steps; i++) {
                add(curves.totalAt(i), curves.ratioAt(i));
                curves.take(i);
            }
        }

        /** They come rising, so that one that is there already is the last one. */
        private void add(long aboveIt, long belowIt) {
            long up = Numbers.lowest(aboveIt, belowIt, 0);
            long down = Numbers.lowest(aboveIt, belowIt, 1);
            boolean isLast = count > 0 && above[count - 1] == up && below[count - 1] == down;
            if (up > 0 && !isLast && count < MOST_BREAKS) {
                above[count] = up;
                below[count] = down;
                count++;
            }
        }

        void findPart(Fall fall, int h, int k) {
            if (k < paying) {
                findPartOfRank(fall, h, k);
            } else {
                findPartByLevel(fall.curves, h, k);
            }
        }

        /** The first TRANCHES are the RANKS that have PREFS. */
        private void findPartOfRank(Fall fall, int h, int k) {
            int rank = NONE;
            for (int i = 0, before = 0; i <= MOST_RANK && rank == NONE; i++) {
                if (fall.rankPrefs[i] > 0) {
                    rank = before == k ? i : NONE;
                    before++;
                }
            }
            if (rank < 0 || rank > MOST_RANK) {
                return;
            }
            boolean isPaid = h >= 0 && h < fall.curves.count && fall.rankOf(h) == rank;
            setPart(isPaid ? fall.curves.startFixed[h] : 0, fall.rankPrefs[rank]);
        }

        private void findPartByLevel(Curves curves, int h, int k) {
            boolean isBehindOne = k > 0 && k <= count;
            curves.sweep(isBehindOne ? above[k - 1] : 0, isBehindOne ? below[k - 1] : 1, true);
            setPart(h >= 0 && h < curves.count ? curves.slope[h] : 0, curves.allSlope);
        }

        private void setPart(long some, long all) {
            partAbove = all > 0 ? some : 0;
            partBelow = all > 0 ? all : 1;
        }
    }

    /** TURNING as a game: a row for each set of the classes that can TURN, by its number among them. */
    private static final class Game {
        private static final int MOST_ROWS = 1 << MOST_CLASSES;

        private final int[] players = new int[MOST_CLASSES];
        private int count;
        private final long[] above = new long[MOST_ROWS * MOST_CLASSES];
        private final long[] below = new long[MOST_ROWS];

        void gather(Firm firm) {
            count = 0;
            for (int h = 0; h < firm.count; h++) {
                if (firm.canTurn(h) && count < MOST_CLASSES) {
                    players[count] = h;
                    count++;
                }
            }
        }

        int rowOf(int set) {
            int row = 0;
            for (int i = 0; i < count; i++) {
                row |= (set >> players[i] & 1) << i;
            }
            return row;
        }

        private int setOf(int row) {
            int set = 0;
            for (int i = 0; i < count; i++) {
                set |= (row >> i & 1) << players[i];
            }
            return set;
        }

        void playAll(Firm firm, Fall fall, long falls) {
            for (int row = 0; row < 1 << count; row++) {
                play(firm, fall, row, falls);
            }
        }

        /** A row, and those in which one alone chooses otherwise. */
        void playRound(Firm firm, Fall fall, int row, long falls) {
            play(firm, fall, row, falls);
            for (int i = 0; i < count; i++) {
                play(firm, fall, row ^ 1 << i, falls);
            }
        }

        private void play(Firm firm, Fall fall, int row, long falls) {
            if (row < 0 || row >= MOST_ROWS) {
                return;
            }
            fall.arrange(firm, true, setOf(row));
            fall.pour(falls);
            below[row] = fall.below;
            for (int i = 0; i < count; i++) {
                above[row * MOST_CLASSES + i] = fall.aboveOf(players[i]);
            }
        }

        boolean isSteady(int row) {
            for (int i = 0; i < count; i++) {
                if (gains(row, row ^ 1 << i, i)) {
                    return false;
                }
            }
            return true;
        }

        private boolean gains(int row, int other, int player) {
            boolean areRows = row >= 0 && row < MOST_ROWS && other >= 0 && other < MOST_ROWS;
            if (!areRows || player < 0 || player >= MOST_CLASSES) {
                return false;
            }
            long now = above[row * MOST_CLASSES + player];
            long then = above[other * MOST_CLASSES + player];
            return Numbers.compareFractions(then, below[other], now, below[row]) > 0;
        }

        int countSteady() {
            int sum = 0;
            for (int row = 0; row < 1 << count; row++) {
                sum += isSteady(row) ? 1 : 0;
            }
            return sum;
        }

        /** The k-th set that is STEADY; rows rise as their sets do. */
        int steadySet(int k) {
            int before = 0;
            for (int row = 0; row < 1 << count; row++) {
                if (isSteady(row)) {
                    if (before == k) {
                        return setOf(row);
                    }
                    before++;
                }
            }
            return NONE;
        }
    }

    /** The SALE, in whole units. */
    private static final class Sale {
        boolean closed;
        int amount;
        int held;
        int dealt;
        int lost;

        void closeBy(int byAmount, int ofHundred) {
            closed = true;
            amount = byAmount;
            held = (int) ((long) byAmount * ofHundred / 100);
            dealt = byAmount - held;
            lost = 0;
        }

        void letGo(int n, boolean isLost) {
            held -= n;
            if (isLost) {
                lost += n;
            } else {
                dealt += n;
            }
        }
    }

    private static final class Guesses {
        final int[] amounts = new int[MOST_GUESSES];
        final int[] weights = new int[MOST_GUESSES];
        int count;

        void add(int amount, int weight) {
            if (count < MOST_GUESSES) {
                amounts[count] = amount;
                weights[count] = weight;
                count++;
            }
        }

        void dropLatest() {
            if (count > 0) {
                count--;
            }
        }
    }

    /** The latest ACTS, each with what was before it, in rows that are used again in turn. */
    private static final class Acts {
        static final int WHICH = 0;
        static final int WHO = 1;
        static final int BEFORE = 2;
        private static final int WAS_CLOSED = 3;
        private static final int AMOUNT = 4;
        private static final int HELD = 5;
        private static final int DEALT = 6;
        private static final int LOST = 7;
        private static final int WIDTH = 8;

        private final int[] rows = new int[MOST_ACTS * WIDTH];
        private int newest;
        int count;

        void keep(int which, int who, int before) {
            newest = (newest + 1) % MOST_ACTS;
            count = Math.min(count + 1, MOST_ACTS);
            put(WHICH, which);
            put(WHO, who);
            put(BEFORE, before);
        }

        void keepSale(Sale deal) {
            keep(SALE_ACT, 0, 0);
            put(WAS_CLOSED, deal.closed ? 1 : 0);
            put(AMOUNT, deal.amount);
            put(HELD, deal.held);
            put(DEALT, deal.dealt);
            put(LOST, deal.lost);
        }

        void giveBackSale(Sale deal) {
            deal.closed = latest(WAS_CLOSED) == 1;
            deal.amount = latest(AMOUNT);
            deal.held = latest(HELD);
            deal.dealt = latest(DEALT);
            deal.lost = latest(LOST);
        }

        void dropLatest() {
            newest = (newest + MOST_ACTS - 1) % MOST_ACTS;
            count = Math.max(count - 1, 0);
        }

        int latest(int what) {
            int at = newest * WIDTH + what;
            return at >= 0 && at < rows.length ? rows[at] : 0;
        }

        private void put(int what, int value) {
            int at = newest * WIDTH + what;
            if (at >= 0 && at < rows.length) {
                rows[at] = value;
            }
        }
    }

    /** Fractions that are 0 or more, and the bits of numbers with a point. */
    private static final class Numbers {
        /** Far above the steps that the greatest longs need. */
        private static final int MOST_STEPS = 1000;

        static long commonDivisor(long one, long other) {
            long a = one;
            long b = other;
            for (int i = 0; i < MOST_STEPS && b != 0; i++) {
                long rest = a % b;
                a = b;
                b = rest;
            }
            return Math.max(a, 1);
        }

        /** In lowest terms what 0: above, 1: below. */
        static long lowest(long above, long below, int what) {
            long divisor = commonDivisor(above, below);
            if (divisor <= 0) {
                return NO_SUCH;
            }
            return (what == 0 ? above : below) / divisor;
        }

        /** Whole part by whole part: products of four such numbers would not fit into a long. */
        static int compareFractions(long above, long below, long otherAbove, long otherBelow) {
            long a = above;
            long b = below;
            long c = otherAbove;
            long d = otherBelow;
            int sign = 1;
            for (int i = 0; i < MOST_STEPS && b > 0 && d > 0; i++) {
                if (a / b != c / d) {
                    return a / b > c / d ? sign : -sign;
                }
                long rest = a % b;
                long otherRest = c % d;
                if (rest == 0 || otherRest == 0) {
                    return sign * Long.compare(rest, otherRest);
                }
                a = b;
                b = rest;
                c = d;
                d = otherRest;
                // turned upside down, the greater one is the less
                sign = -sign;
            }
            return 0;
        }

        static double asDouble(long above, long below) {
            long down = lowest(above, below, 1);
            return down > 0 ? (double) lowest(above, below, 0) / (double) down : 0.0;
        }

        static float asFloat(long above, long below) {
            long down = lowest(above, below, 1);
            return down > 0 ? (float) lowest(above, below, 0) / (float) down : 0.0f;
        }

        static double grown(double cost, int rate, int years) {
            double sum = cost;
            for (int i = 0; i < years; i++) {
                sum = sum * (1.0 + rate / 100.0);
            }
            return sum;
        }

        /** Of a double that is 0 or more, and neither too great nor too small for a whole exponent. */
        static long bitsOfDouble(double number) {
            if (!(number > 0.0)) {
                return 0;
            }
            double part = number;
            long exponent = 1023;
            for (int i = 0; i < MOST_STEPS && part >= 2.0; i++) {
                part = part / 2.0;
                exponent++;
            }
            for (int i = 0; i < MOST_STEPS && part < 1.0; i++) {
                part = part * 2.0;
                exponent--;
            }
            return (exponent << 52) + (long) ((part - 1.0) * 4503599627370496.0);
        }

        static int bitsOfFloat(float number) {
            if (!(number > 0.0f)) {
                return 0;
            }
            float part = number;
            int exponent = 127;
            for (int i = 0; i < MOST_STEPS && part >= 2.0f; i++) {
                part = part / 2.0f;
                exponent++;
            }
            for (int i = 0; i < MOST_STEPS && part < 1.0f; i++) {
                part = part * 2.0f;
                exponent--;
            }
            return (exponent << 23) + (int) ((part - 1.0f) * 8388608.0f);
        }
    }
}
