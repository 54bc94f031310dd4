import java.util.Arrays;

/** Odd payments, judged by rules; README.md says how to use it, the promises stand in the document. */
public final class OddPayments {
    public static final int NONE = -1000000, BAD = -1000001, STATE = -1000002, FULL = -1000003;

    private static final int NULL = 1, PLACE = 2, KIND = 3, SIZE = 4, STORE = 5;
    private static final int FINDINGS = -1000010, FAULTS = -1000100;

    private static final int SHEETS = 8, LANES = 3, ITEMS = 120;
    private static final int PAYMENTS = 120, TAGS = 1000, PEOPLE = 20, SORTS = 4, FIGURES_OF_ONE = 6, BATCH = 20;
    private static final int LAST_TIME = 100000, LAST_BOUND = 200000, MOST_AMOUNT = 100000;
    private static final int HONEST = 0, ODD = 1;
    private static final int PASSED = 0, LOOKED_AT = 1, BLOCKED = 2;
    private static final int IS_PAYMENT = 0, IS_HELD = 1, IS_STOPPED = 2, IS_CLEARED = 3;
    private static final int MOST_COST = 100000, MOST_SETTING = 20000;
    private static final int MOST_DRIFT = 40, FEWEST_TOLD = 5;

    private final Sheet[] sheets = new Sheet[SHEETS];
    private final Ledger ledger = new Ledger();
    private final Tape tape = new Tape();
    private final Reader reader = new Reader(tape);
    private final Judge judge = new Judge(ledger);
    private final Pricer pricer = new Pricer(ledger, judge);
    private final Drift shift = new Drift();
    private final Asker asker = new Asker();
    private RuleBook spare = new RuleBook();
    private int latestFault = 0;
    private int finding = 0;

    public OddPayments() {
        for (int i = 0; i < SHEETS; i++) {
            sheets[i] = new Sheet();
        }
    }

    // ---- sheets

    public int sheet(int sheet, int lane, int n) {
        if (!isSheet(sheet) || !within(lane, 0, LANES - 1) || n > ITEMS) {
            return BAD;
        }
        if (n < 0) {
            return found(SIZE);
        }
        sheets[sheet].lay(lane, n);
        return unhurt(n);
    }

    public int set(int sheet, int i, int v) {
        if (!isSheet(sheet)) {
            return BAD;
        }
        Sheet s = sheets[sheet];
        if (!s.there) {
            return found(NULL);
        }
        if (!s.has(i, 1)) {
            return found(PLACE);
        }
        return unhurt(s.put(i, v));
    }

    public int copy(int a, int i, int b, int j, int n) {
        if (!isSheet(a) || !isSheet(b)) {
            return BAD;
        }
        Sheet from = sheets[a];
        Sheet to = sheets[b];
        if (!from.there || !to.there) {
            return found(NULL);
        }
        if (from.lane != to.lane) {
            return found(STORE);
        }
        if (!from.has(i, n) || !to.has(j, n)) {
            return found(PLACE);
        }
        System.arraycopy(from.items, i, to.items, j, n);
        return unhurt(n);
    }

    public int drop(int sheet) {
        if (!isSheet(sheet)) {
            return BAD;
        }
        Sheet s = sheets[sheet];
        if (!s.there) {
            return found(NULL);
        }
        s.there = false;
        return unhurt(s.size);
    }

    // ---- payments

    public int pay(int tag, int time, int payer, int payee, int amount, int sort) {
        return admit(tag, time, payer, payee, amount, sort);
    }

    public int batch(int sheet, int i, int n) {
        if (!isSheet(sheet) || !within(n, 1, BATCH)) {
            return BAD;
        }
        Sheet s = sheets[sheet];
        if (!s.there) {
            return found(NULL);
        }
        if (!s.has(i, n * FIGURES_OF_ONE)) {
            return found(PLACE);
        }
        int came = 0;
        for (int k = 0; k < n; k++) {
            if (admitFrom(s.items, i + k * FIGURES_OF_ONE) >= 0) {
                came++;
            }
        }
        return unhurt(came);
    }

    public int told(int tag, int what) {
        Payment p = ledger.find(tag);
        if (p == null) {
            return BAD;
        }
        switch (what) {
            case 0:
                return p.number;
            case 1:
                return p.time;
            case 2:
                return p.payer;
            case 3:
                return p.payee;
            case 4:
                return p.amount;
            case 5:
                return p.sort;
            case 6:
                return p.verdict;
            default:
                return BAD;
        }
    }

    public int order(int i) {
        Payment p = ledger.inOrder(i);
        return p == null ? NONE : p.tag;
    }

    public int mark(int who, int on) {
        if (!within(who, 0, PEOPLE - 1) || !within(on, 0, 1)) {
            return BAD;
        }
        if (ledger.isMarked(who) == (on == 1)) {
            return 0;
        }
        ledger.turnMark(who);
        judge.forget();
        return 1;
    }

    public int feature(int tag, int feature, int known) {
        Payment p = ledger.find(tag);
        if (p == null || !within(feature, 0, Row.LENGTH - 1) || !within(known, 0, 1)) {
            return BAD;
        }
        return judge.rowOf(p, known).values[feature];
    }

    public int profile(int tag, int known) {
        Payment p = ledger.find(tag);
        if (p == null || !within(known, 0, 1)) {
            return BAD;
        }
        return judge.rowOf(p, known).faded;
    }

    // ---- rules

    public int feed(long w, int n) {
        if (!within(n, 1, Tape.AT_ONCE)) {
            return BAD;
        }
        if (n > Tape.LENGTH - tape.size) {
            return FULL;
        }
        tape.add(w, n);
        return tape.size;
    }

    public int rules() {
        boolean clean = reader.read(spare);
        tape.size = 0;
        if (!clean) {
            latestFault = reader.wrong;
            return FAULTS - reader.wrongPlace;
        }
        RuleBook old = judge.book;
        judge.follow(spare);
        spare = old;
        return judge.book.size;
    }

    public int fault() {
        return latestFault;
    }

    public int rule(int what) {
        if (!within(what, 0, RuleBook.LIMITS - 1)) {
            return BAD;
        }
        return judge.book.limits[what];
    }

    public int judged(int tag, int known, int what) {
        Payment p = ledger.find(tag);
        if (p == null || !within(known, 0, 1)) {
            return BAD;
        }
        switch (what) {
            case 0:
                return judge.scoreOf(p, known);
            case 1:
                return judge.actOf(p, known);
            case 2:
                return judge.heldBy(p, known);
            case 3:
                return judge.whyOf(p, known);
            default:
                return BAD;
        }
    }

    public int would(int tag, int amount) {
        Payment p = ledger.find(tag);
        if (p == null || !within(amount, 1, MOST_AMOUNT)) {
            return BAD;
        }
        return judge.actIf(p, amount);
    }

    public int acts(int what) {
        switch (what) {
            case 0:
                return judge.manyWith(BLOCKED);
            case 1:
                return judge.manyWith(LOOKED_AT);
            case 2:
                return judge.manyWith(PASSED);
            case 3:
                return judge.manyOtherThen();
            default:
                return BAD;
        }
    }

    // ---- looks, verdicts

    public int verdict(int tag, int v) {
        Payment p = ledger.find(tag);
        if (p == null || !within(v, HONEST, ODD)) {
            return BAD;
        }
        int before = p.verdict;
        p.verdict = v;
        return before;
    }

    public int queue(int i) {
        judge.lineUp();
        if (!within(i, 0, judge.waiting - 1)) {
            return NONE;
        }
        return judge.line[i].tag;
    }

    public int cost(int what, int v) {
        if (!within(what, 0, 1) || !within(v, 0, MOST_COST)) {
            return BAD;
        }
        int before = what == 0 ? pricer.blockCost : pricer.lookCost;
        if (what == 0) {
            pricer.blockCost = v;
        } else {
            pricer.lookCost = v;
        }
        return before;
    }

    public long setting(int l, int b) {
        if (!within(l, 0, MOST_SETTING) || !within(b, l, MOST_SETTING)) {
            return BAD;
        }
        return pricer.priceOf(l, b);
    }

    public long bestSetting(int what) {
        if (!within(what, 0, 2)) {
            return BAD;
        }
        pricer.findBest();
        if (what == 2) {
            return pricer.bestPrice;
        }
        return what == 0 ? pricer.bestLook : pricer.bestBlock;
    }

    public long learnt(int what) {
        switch (what) {
            case 0:
                return pricer.learn();
            case 1:
                return pricer.priceOfSet(pricer.learn(), 0);
            case 2:
                return pricer.priceOfSet(pricer.learn(), 1);
            case 3:
                return pricer.priceOfSet(judge.book.allRules(), 1);
            default:
                return BAD;
        }
    }

    public long costs(int set, int odd) {
        if (!within(set, 0, judge.book.allRules()) || !within(odd, 0, 1)) {
            return BAD;
        }
        return pricer.priceOfSet(set, odd);
    }

    // ---- drift, counts

    public long drift(int sort, int from, int middle, int to, int what) {
        if (!within(sort, 0, SORTS - 1) || !within(what, 0, 5)) {
            return BAD;
        }
        if (!areBounds(from, middle) || !areBounds(middle, to)) {
            return BAD;
        }
        shift.tally(ledger, sort, from, middle, to);
        return shift.first + shift.second > MOST_DRIFT ? FULL : shift.tell(what);
    }

    public int counted(int from, int to, int payer) {
        if (!areBounds(from, to) || !within(payer, 0, PEOPLE - 1)) {
            return BAD;
        }
        int many = ledger.manyBetween(from, to, payer);
        return many > 0 && many < FEWEST_TOLD ? NONE : many;
    }

    // ---- asked

    public int kind(int tag) {
        Payment p = ledger.find(tag);
        return p == null ? BAD : judge.kindOf(p);
    }

    public int as(int tag, int kind) {
        Payment p = ledger.find(tag);
        if (p == null || !within(kind, IS_PAYMENT, IS_CLEARED)) {
            return BAD;
        }
        int own = judge.kindOf(p);
        boolean fits = kind == own || kind == IS_PAYMENT || kind == IS_HELD && own == IS_STOPPED;
        return fits ? unhurt(p.number) : found(KIND);
    }

    public int ask(int tag, int what) {
        Payment p = ledger.find(tag);
        if (p == null || !within(what, 0, 1)) {
            return BAD;
        }
        return asker.answer(what, p, judge.kindOf(p), judge.scoreOf(p, 0));
    }

    public int trace(int i) {
        return within(i, 0, asker.steps - 1) ? asker.trail[i] : NONE;
    }

    public int count(int what) {
        switch (what) {
            case 0:
                return sheetsThere();
            case 1:
                return ledger.size;
            case 2:
                return judge.book.size;
            case 3:
                return ledger.manyJudged(HONEST) + ledger.manyJudged(ODD);
            case 4:
                return ledger.manyJudged(ODD);
            case 5:
                return Integer.bitCount(ledger.marked);
            case 6:
                judge.lineUp();
                return judge.waiting;
            case 7:
                return tape.size;
            default:
                return BAD;
        }
    }

    public int status() {
        return finding;
    }

    // ---- what the calls share

    private static boolean within(int v, int least, int most) {
        return v >= least && v <= most;
    }

    private static boolean areBounds(int from, int to) {
        return within(from, 0, LAST_BOUND) && within(to, from, LAST_BOUND);
    }

    private static boolean isSheet(int sheet) {
        return within(sheet, 0, SHEETS - 1);
    }

    private int found(int number) {
        finding = number;
        return FINDINGS - number;
    }

    private int unhurt(int answer) {
        finding = 0;
        return answer;
    }

    private int sheetsThere() {
        int many = 0;
        for (int i = 0; i < SHEETS; i++) {
            if (sheets[i].there) {
                many++;
            }
        }
        return many;
    }

    private int admitFrom(int[] items, int i) {
        if (!within(i, 0, items.length - FIGURES_OF_ONE)) {
            return BAD;
        }
        return admit(items[i], items[i + 1], items[i + 2], items[i + 3], items[i + 4], items[i + 5]);
    }

    private int admit(int tag, int time, int payer, int payee, int amount, int sort) {
        if (!within(tag, 0, TAGS - 1) || !within(time, 0, LAST_TIME)) {
            return BAD;
        }
        if (!within(payer, 0, PEOPLE - 1) || !within(payee, 0, PEOPLE - 1) || payer == payee) {
            return BAD;
        }
        if (!within(amount, 1, MOST_AMOUNT) || !within(sort, 0, SORTS - 1)) {
            return BAD;
        }
        if (ledger.find(tag) != null) {
            return STATE;
        }
        if (ledger.size >= PAYMENTS) {
            return FULL;
        }
        Payment p = new Payment(tag, time, payer, payee, amount, sort, ledger.size);
        ledger.take(p);
        judge.forget();
        return p.number;
    }

    /** Its room is made once, so that laying sheets anew takes none. */
    private static final class Sheet {
        private static final int BYTES = 0, SHORTS = 1;

        final int[] items = new int[ITEMS];
        boolean there = false;
        int lane = 0;
        int size = 0;

        void lay(int newLane, int n) {
            Arrays.fill(items, 0);
            there = true;
            lane = newLane;
            size = n;
        }

        boolean has(int i, int n) {
            return n >= 0 && i >= 0 && i <= size && n <= size - i;
        }

        int put(int i, int v) {
            int kept = lane == BYTES ? (byte) v : lane == SHORTS ? (short) v : v;
            if (has(i, 1)) {
                items[i] = kept;
            }
            return kept;
        }
    }

    private static final class Payment {
        final int tag;
        final int time;
        final int payer;
        final int payee;
        final int amount;
        final int sort;
        final int number;
        int verdict = NONE;

        Payment(int tag, int time, int payer, int payee, int amount, int sort, int number) {
            this.tag = tag;
            this.time = time;
            this.payer = payer;
            this.payee = payee;
            this.amount = amount;
            this.sort = sort;
            this.number = number;
        }

        boolean comesBefore(Payment other) {
            return time != other.time ? time < other.time : tag < other.tag;
        }
    }

    /** All payments, by tag and in order, and the marked people. */
    private static final class Ledger {
        private final Payment[] byTag = new Payment[TAGS];
        private final Payment[] ordered = new Payment[PAYMENTS];
        int size = 0;
        int marked = 0;

        Payment find(int tag) {
            return within(tag, 0, TAGS - 1) ? byTag[tag] : null;
        }

        Payment inOrder(int i) {
            return within(i, 0, size - 1) ? ordered[i] : null;
        }

        void take(Payment p) {
            if (size >= PAYMENTS) {
                return;
            }
            int i = size;
            while (i > 0 && p.comesBefore(ordered[i - 1])) {
                ordered[i] = ordered[i - 1];
                i--;
            }
            ordered[i] = p;
            byTag[p.tag] = p;
            size++;
        }

        boolean isMarked(int who) {
            return (marked >> who & 1) == 1;
        }

        void turnMark(int who) {
            marked ^= 1 << who;
        }

        int manyJudged(int verdict) {
            int many = 0;
            for (int i = 0; i < size; i++) {
                if (ordered[i].verdict == verdict) {
                    many++;
                }
            }
            return many;
        }

        int manyBetween(int from, int to, int payer) {
            int many = 0;
            for (int i = 0; i < size; i++) {
                Payment p = ordered[i];
                if (p.payer == payer && p.time >= from && p.time < to) {
                    many++;
                }
            }
            return many;
        }
    }

    /** The features of one payment, all gathered in one walk over those ahead, since rules ask for several. */
    private static final class Row {
        static final int LENGTH = 10;
        private static final int AMOUNT = 0, SORT = 1, HOUR = 2, MANY = 3, SUM = 4, PAYEES = 5, SEEN = 6, RATIO = 7,
                FAR = 8, INTO = 9;
        private static final int MOST_FADES = 40, FARTHEST = 8, HOURS = 24;

        final int[] values = new int[LENGTH];
        int faded = 0;
        private final int[] links = new int[PEOPLE];
        private int payees = 0;
        private int latest = 0;
        private int window = 0;
        private int decay = 0;

        void gather(Ledger ledger, Payment p, int known, RuleBook book) {
            begin(p, book);
            for (int i = 0; i < ledger.size; i++) {
                Payment q = ledger.inOrder(i);
                if (q == null || q.number == p.number) {
                    break;
                }
                if (known == 0 || q.number < p.number) {
                    add(q, p);
                }
            }
            faded = fade(faded, p.time - latest);
            values[PAYEES] = Integer.bitCount(payees);
            values[FAR] = far(p.payee, ledger.marked);
            takeAmount(p.amount);
        }

        /** Alone the payment's own amount and its ratio rest on it: what is ahead does not. */
        void takeAmount(int amount) {
            int divisor = faded + 1;
            values[AMOUNT] = amount;
            values[RATIO] = divisor > 0 ? amount * 100 / divisor : 0;
        }

        private void begin(Payment p, RuleBook book) {
            Arrays.fill(values, 0);
            Arrays.fill(links, 0);
            values[SORT] = p.sort;
            values[HOUR] = p.time % HOURS;
            payees = 1 << p.payee;
            faded = 0;
            latest = p.time;
            window = book.limits[RuleBook.WINDOW];
            decay = book.limits[RuleBook.DECAY];
        }

        private void add(Payment q, Payment p) {
            boolean inWindow = q.time > p.time - window;
            links[q.payer] |= 1 << q.payee;
            links[q.payee] |= 1 << q.payer;
            if (inWindow && q.payee == p.payee) {
                values[INTO]++;
            }
            if (q.payer != p.payer) {
                return;
            }
            if (inWindow) {
                values[MANY]++;
                values[SUM] += q.amount;
                payees |= 1 << q.payee;
            }
            if (q.payee == p.payee) {
                values[SEEN]++;
            }
            faded = fade(faded, q.time - latest);
            faded += (q.amount - faded) / 4;
            latest = q.time;
        }

        /** The first one has none before it, but then there is nothing yet that could fade. */
        private int fade(int value, int time) {
            int left = value;
            int times = decay > 0 ? time / decay : 0;
            for (int i = 0; i < times && i < MOST_FADES; i++) {
                left -= left / 4;
            }
            return left;
        }

        private int far(int payee, int marked) {
            int reached = 1 << payee;
            for (int steps = 0; steps <= FARTHEST; steps++) {
                if ((reached & marked) != 0) {
                    return steps;
                }
                reached |= linkedTo(reached);
            }
            return FARTHEST + 1;
        }

        private int linkedTo(int people) {
            int linked = 0;
            for (int who = 0; who < PEOPLE; who++) {
                if ((people >> who & 1) == 1) {
                    linked |= links[who];
                }
            }
            return linked;
        }
    }

    /** Rules as told in a text; there are two books, so that a faulty text leaves the one that is followed alone. */
    private static final class RuleBook {
        static final int WINDOW = 0, DECAY = 1, LOOK = 2, BLOCK = 3, LIMITS = 4;
        static final int RULES = 12, TESTS = 4;

        final int[] limits = new int[LIMITS];
        int size = 0;
        private final int[] weights = new int[RULES];
        private final int[] tests = new int[RULES];
        private final int[] features = new int[RULES * TESTS];
        private final int[] signs = new int[RULES * TESTS];
        private final int[] numbers = new int[RULES * TESTS];

        RuleBook() {
            clear();
        }

        void clear() {
            limits[WINDOW] = 100;
            limits[DECAY] = 50;
            limits[LOOK] = 10;
            limits[BLOCK] = 20;
            size = 0;
        }

        void addRule(int weight) {
            if (size < RULES) {
                weights[size] = weight;
                tests[size] = 0;
                size++;
            }
        }

        void addTest(int feature, int sign, int number) {
            int k = size - 1;
            if (k < 0 || tests[k] >= TESTS) {
                return;
            }
            int at = k * TESTS + tests[k];
            features[at] = feature;
            signs[at] = sign;
            numbers[at] = number;
            tests[k]++;
        }

        int allRules() {
            return (1 << size) - 1;
        }

        int thatHold(int[] values) {
            int held = 0;
            for (int k = 0; k < size; k++) {
                if (holds(k, values)) {
                    held |= 1 << k;
                }
            }
            return held;
        }

        private boolean holds(int k, int[] values) {
            for (int at = k * TESTS; at < k * TESTS + tests[k]; at++) {
                int value = within(features[at], 0, values.length - 1) ? values[features[at]] : 0;
                int sign = signs[at];
                boolean passes = sign == '<' ? value < numbers[at] : sign == '>' ? value > numbers[at] : value == numbers[at];
                if (!passes) {
                    return false;
                }
            }
            return true;
        }

        int weigh(int set) {
            int sum = 0;
            for (int k = 0; k < size; k++) {
                if ((set >> k & 1) == 1) {
                    sum += weights[k];
                }
            }
            return sum;
        }

        int actAt(int score) {
            return score >= limits[BLOCK] ? BLOCKED : score >= limits[LOOK] ? LOOKED_AT : PASSED;
        }

        /**
         * From the highest rule down each is left out that the lower ones can do without:
         * this gives the least number, as the highest rule in a set outweighs all below it.
         */
        int fewest(int held, int goal) {
            int left = fewestThatReach(held, goal);
            int pool = held;
            int need = goal;
            int chosen = 0;
            for (int k = size - 1; k >= 0 && left > 0; k--) {
                if ((pool >> k & 1) == 0) {
                    continue;
                }
                pool ^= 1 << k;
                if (heaviest(pool, left) < need) {
                    chosen |= 1 << k;
                    need -= weights[k];
                    left--;
                }
            }
            return chosen;
        }

        private int fewestThatReach(int held, int goal) {
            int many = 0;
            while (many < size && heaviest(held, many) < goal) {
                many++;
            }
            return many;
        }

        /** The greatest sum of weights that so many rules of a set can have. */
        private int heaviest(int set, int many) {
            int sum = 0;
            int rest = set;
            for (int i = 0; i < many; i++) {
                int best = -1;
                for (int k = 0; k < size; k++) {
                    if ((rest >> k & 1) == 1 && (best < 0 || weights[k] > weights[best])) {
                        best = k;
                    }
                }
                if (best < 0) {
                    break;
                }
                sum += weights[best];
                rest ^= 1 << best;
            }
            return sum;
        }
    }

    /** The text that was fed, and its tokens; what is no token is kept as one, since it is faulty only where it is reached. */
    private static final class Tape {
        static final int LENGTH = 600, AT_ONCE = 8;
        static final int NO_TOKEN = 0, WORD = 1, NUMBER = 2, SIGN = 3, END = 4;
        static final int RULE = 4, IF = 5, AND = 6, FIRST_FEATURE = 7, LAST_FEATURE = 16, NO_WORD = 17;
        // The first four words stand as a book's limits do, the last ten as the features of a row: their places serve as numbers.
        private static final String WORDS = "window decay  look   block  rule   if     and    amount sort   hour   count  sum    payees seen   ratio  far    into   ";
        private static final int LONGEST = 6, STRIDE = 7, LINE_END = 10;

        final int[] tokens = new int[LENGTH + 1];
        final int[] values = new int[LENGTH + 1];
        final int[] places = new int[LENGTH + 1];
        int size = 0;
        private final byte[] bytes = new byte[LENGTH];
        private int many = 0;

        void add(long w, int n) {
            for (int k = n - 1; k >= 0 && size < LENGTH; k--) {
                bytes[size] = (byte) (w >> 8 * k);
                size++;
            }
        }

        void split() {
            many = 0;
            for (int i = 0; i < size; i = Math.max(i + 1, endOf(i))) {
                if (bytes[i] != ' ' && bytes[i] != LINE_END) {
                    takeToken(i, endOf(i));
                }
            }
            keep(END, 0, size);
        }

        private int endOf(int i) {
            int end = i;
            while (end < size && isLetter(bytes[i]) && isLetter(bytes[end])) {
                end++;
            }
            while (end < size && isFigure(bytes[i]) && isFigure(bytes[end])) {
                end++;
            }
            return Math.max(i + 1, end);
        }

        private void takeToken(int i, int end) {
            byte c = bytes[i];
            if (end - i > LONGEST) {
                keep(NO_TOKEN, 0, i);
            } else if (isLetter(c)) {
                keep(WORD, wordAt(i, end), i);
            } else if (isFigure(c)) {
                keep(NUMBER, numberAt(i, end), i);
            } else {
                keep(c == ';' || c == '<' || c == '>' || c == '=' ? SIGN : NO_TOKEN, c, i);
            }
        }

        private void keep(int token, int value, int place) {
            if (many <= LENGTH) {
                tokens[many] = token;
                values[many] = value;
                places[many] = place;
                many++;
            }
        }

        private int wordAt(int i, int end) {
            for (int k = 0; k < NO_WORD; k++) {
                if (isSpelt(k * STRIDE, i, end - i)) {
                    return k;
                }
            }
            return NO_WORD;
        }

        private boolean isSpelt(int at, int i, int length) {
            if (at + length >= WORDS.length() || WORDS.charAt(at + length) != ' ') {
                return false;
            }
            for (int k = 0; k < length && i + k < size; k++) {
                if (WORDS.charAt(at + k) != bytes[i + k]) {
                    return false;
                }
            }
            return true;
        }

        private int numberAt(int i, int end) {
            int value = 0;
            for (int k = i; k < end && k < size; k++) {
                value = value * 10 + bytes[k] - '0';
            }
            return value;
        }

        private static boolean isLetter(int c) {
            return c >= 'a' && c <= 'z';
        }

        private static boolean isFigure(int c) {
            return c >= '0' && c <= '9';
        }
    }

    /** Reads the tape's tokens into a book, up to the first fault. */
    private static final class Reader {
        private static final int MISPLACED = 1, MISNUMBERED = 2, TOO_MANY = 3;
        private static final int MOST_WEIGHT = 1000, MOST_NUMBER = 999999;

        int wrong = 0;
        int wrongPlace = 0;
        private final Tape tape;
        private RuleBook book = null;
        private int at = 0;
        private int token = Tape.END;
        private int value = 0;

        Reader(Tape tape) {
            this.tape = tape;
        }

        boolean read(RuleBook blank) {
            tape.split();
            book = blank;
            book.clear();
            goTo(0);
            for (int i = 0; i < Tape.LENGTH && token != Tape.END; i++) {
                if (!readStatement()) {
                    return false;
                }
            }
            return true;
        }

        /** The end is the last token, and none goes beyond it. */
        private void goTo(int i) {
            if (i >= 0 && i <= Tape.LENGTH) {
                at = i;
                token = tape.tokens[i];
                value = tape.values[i];
            }
        }

        private void goOn() {
            if (token != Tape.END) {
                goTo(at + 1);
            }
        }

        private boolean readStatement() {
            if (token == Tape.WORD && within(value, RuleBook.WINDOW, RuleBook.BLOCK)) {
                return readLimit(value);
            }
            return isWord(Tape.RULE) ? readRule() : fail(MISPLACED);
        }

        private boolean readLimit(int limit) {
            boolean isTime = limit == RuleBook.WINDOW || limit == RuleBook.DECAY;
            goOn();
            if (!hasNumber(isTime ? 1 : 0, isTime ? LAST_TIME : MOST_SETTING)) {
                return false;
            }
            book.limits[limit] = value;
            goOn();
            return passEnd();
        }

        private boolean readRule() {
            if (book.size >= RuleBook.RULES) {
                return fail(TOO_MANY);
            }
            goOn();
            if (!hasNumber(1, MOST_WEIGHT)) {
                return false;
            }
            book.addRule(value);
            goOn();
            if (!isWord(Tape.IF)) {
                return fail(MISPLACED);
            }
            for (int tests = 0; tests < RuleBook.TESTS; tests++) {
                goOn();
                if (!readTest()) {
                    return false;
                }
                if (!isWord(Tape.AND)) {
                    return passEnd();
                }
            }
            return fail(TOO_MANY);
        }

        private boolean readTest() {
            if (token != Tape.WORD || !within(value, Tape.FIRST_FEATURE, Tape.LAST_FEATURE)) {
                return fail(MISPLACED);
            }
            int feature = value - Tape.FIRST_FEATURE;
            goOn();
            if (token != Tape.SIGN || value == ';') {
                return fail(MISPLACED);
            }
            int sign = value;
            goOn();
            if (!hasNumber(0, MOST_NUMBER)) {
                return false;
            }
            book.addTest(feature, sign, value);
            goOn();
            return true;
        }

        private boolean isWord(int word) {
            return token == Tape.WORD && value == word;
        }

        private boolean hasNumber(int least, int most) {
            if (token != Tape.NUMBER) {
                return fail(MISPLACED);
            }
            return within(value, least, most) || fail(MISNUMBERED);
        }

        private boolean passEnd() {
            if (token != Tape.SIGN || value != ';') {
                return fail(MISPLACED);
            }
            goOn();
            return true;
        }

        private boolean fail(int number) {
            wrong = number;
            wrongPlace = tape.places[at];
            return false;
        }
    }

    /** What the rules say of payments; the sets that hold are kept until something changes, as most calls ask for all. */
    private static final class Judge {
        private static final int UNKNOWN = -1;

        RuleBook book = new RuleBook();
        final Payment[] line = new Payment[PAYMENTS];
        int waiting = 0;
        private final Ledger ledger;
        private final Row row = new Row();
        private final int[] held = new int[2 * PAYMENTS];
        private final int[] scores = new int[2 * PAYMENTS];
        private final long[] worths = new long[PAYMENTS];

        Judge(Ledger ledger) {
            this.ledger = ledger;
            forget();
        }

        void forget() {
            Arrays.fill(held, UNKNOWN);
        }

        void follow(RuleBook other) {
            book = other;
            forget();
        }

        Row rowOf(Payment p, int known) {
            row.gather(ledger, p, known, book);
            return row;
        }

        int heldBy(Payment p, int known) {
            return held[slotOf(p, known)];
        }

        int scoreOf(Payment p, int known) {
            return scores[slotOf(p, known)];
        }

        int actOf(Payment p, int known) {
            return book.actAt(scores[slotOf(p, known)]);
        }

        private int slotOf(Payment p, int known) {
            int slot = known == 0 ? p.number : PAYMENTS + p.number;
            if (!within(slot, 0, held.length - 1)) {
                return 0;
            }
            if (held[slot] == UNKNOWN) {
                row.gather(ledger, p, known, book);
                held[slot] = book.thatHold(row.values);
                scores[slot] = book.weigh(held[slot]);
            }
            return slot;
        }

        int actIf(Payment p, int amount) {
            Row other = rowOf(p, 0);
            other.takeAmount(amount);
            return book.actAt(book.weigh(book.thatHold(other.values)));
        }

        int whyOf(Payment p, int known) {
            int act = actOf(p, known);
            if (act == PASSED) {
                return 0;
            }
            return book.fewest(heldBy(p, known), book.limits[act == BLOCKED ? RuleBook.BLOCK : RuleBook.LOOK]);
        }

        int kindOf(Payment p) {
            if (p.verdict == HONEST) {
                return IS_CLEARED;
            }
            int act = actOf(p, 0);
            return act == BLOCKED ? IS_STOPPED : act == LOOKED_AT ? IS_HELD : IS_PAYMENT;
        }

        int manyWith(int act) {
            int many = 0;
            for (int i = 0; i < ledger.size; i++) {
                Payment p = ledger.inOrder(i);
                if (p != null && actOf(p, 0) == act) {
                    many++;
                }
            }
            return many;
        }

        int manyOtherThen() {
            int many = 0;
            for (int i = 0; i < ledger.size; i++) {
                Payment p = ledger.inOrder(i);
                if (p != null && actOf(p, 0) != actOf(p, 1)) {
                    many++;
                }
            }
            return many;
        }

        void lineUp() {
            waiting = 0;
            for (int i = 0; i < ledger.size; i++) {
                Payment p = ledger.inOrder(i);
                if (p != null && p.verdict == NONE && actOf(p, 0) == LOOKED_AT) {
                    queueIn(p, (long) p.amount * scoreOf(p, 0));
                }
            }
        }

        /** They come in order, so one that is worth as much as another stays behind it. */
        private void queueIn(Payment p, long worth) {
            if (waiting >= PAYMENTS) {
                return;
            }
            int i = waiting;
            while (i > 0 && worths[i - 1] < worth) {
                worths[i] = worths[i - 1];
                line[i] = line[i - 1];
                i--;
            }
            worths[i] = worth;
            line[i] = p;
            waiting++;
        }
    }

    /** Costs of settings and of sets of rules on payments with a verdict. */
    private static final class Pricer {
        int blockCost = 50;
        int lookCost = 5;
        int bestLook = 0;
        int bestBlock = 0;
        long bestPrice = 0;
        private final Ledger ledger;
        private final Judge judge;
        private final int[] scores = new int[PAYMENTS];
        private final int[] losses = new int[PAYMENTS];
        private int rated = 0;
        private final int[] thresholds = new int[PAYMENTS + 1];
        private int steps = 0;
        private final int[] sums = new int[1 << RuleBook.RULES];

        Pricer(Ledger ledger, Judge judge) {
            this.ledger = ledger;
            this.judge = judge;
        }

        long priceOf(int l, int b) {
            rate();
            return lookPart(l) + blockPart(b);
        }

        /** From the last threshold down, with the best b from there on: of equals the least l stays, with its least b. */
        void findBest() {
            rate();
            findThresholds();
            int b = thresholds[steps - 1];
            long bPart = blockPart(b);
            bestPrice = Long.MAX_VALUE;
            for (int i = steps - 1; i >= 0; i--) {
                int l = thresholds[i];
                long lPart = lookPart(l);
                long ownPart = blockPart(l);
                if (ownPart <= bPart) {
                    b = l;
                    bPart = ownPart;
                }
                if (lPart + bPart <= bestPrice) {
                    bestPrice = lPart + bPart;
                    bestLook = l;
                    bestBlock = b;
                }
            }
        }

        /** Of each payment with a verdict its score, and what it costs if it passes; the honest cost nothing then. */
        private void rate() {
            rated = 0;
            for (int i = 0; i < ledger.size && rated < PAYMENTS; i++) {
                Payment p = ledger.inOrder(i);
                if (p != null && p.verdict != NONE) {
                    scores[rated] = judge.scoreOf(p, 0);
                    losses[rated] = p.verdict == ODD ? p.amount : 0;
                    rated++;
                }
            }
        }

        /** As l is not above b, all from l on are looked at, less those from b on: so a cost is a part of l and one of b. */
        private long lookPart(int l) {
            long part = 0;
            for (int i = 0; i < rated; i++) {
                part += scores[i] >= l ? lookCost : losses[i];
            }
            return part;
        }

        private long blockPart(int b) {
            long part = 0;
            for (int i = 0; i < rated; i++) {
                if (scores[i] >= b) {
                    part += (losses[i] == 0 ? blockCost : 0) - lookCost;
                }
            }
            return part;
        }

        private void findThresholds() {
            thresholds[0] = 0;
            steps = 1;
            for (int i = 0; i < rated; i++) {
                addThreshold(scores[i] + 1);
            }
        }

        private void addThreshold(int threshold) {
            int at = steps;
            while (at > 0 && thresholds[at - 1] > threshold) {
                at--;
            }
            boolean known = at > 0 && thresholds[at - 1] == threshold;
            if (known || steps > PAYMENTS) {
                return;
            }
            System.arraycopy(thresholds, at, thresholds, at + 1, steps - at);
            thresholds[at] = threshold;
            steps++;
        }

        long priceOfSet(int set, int odd) {
            long price = 0;
            for (int i = 0; i < ledger.size; i++) {
                Payment p = ledger.inOrder(i);
                if (p == null || p.verdict == NONE || p.tag % 2 != odd) {
                    continue;
                }
                boolean caught = (judge.heldBy(p, 0) & set) != 0;
                if (p.verdict == ODD && !caught) {
                    price += p.amount;
                } else if (p.verdict == HONEST && caught) {
                    price += blockCost;
                }
            }
            return price;
        }

        /** Sets are tried by rising numbers, so of equals the least number stays. */
        int learn() {
            sumUp();
            int all = judge.book.allRules();
            int best = 0;
            for (int set = 1; set <= all; set++) {
                int more = sums[all ^ set] - sums[all ^ best];
                if (more < 0 || more == 0 && Integer.bitCount(set) < Integer.bitCount(best)) {
                    best = set;
                }
            }
            return best;
        }

        /**
         * What a set misses are the payments all of whose rules are outside it: odd ones cost their amount there,
         * honest ones save the cost of a block. Summed over the parts of every set at once, since trying each set
         * on each payment would take far longer.
         */
        private void sumUp() {
            int all = judge.book.allRules();
            Arrays.fill(sums, 0);
            for (int i = 0; i < ledger.size; i++) {
                Payment p = ledger.inOrder(i);
                if (p != null && p.verdict != NONE && p.tag % 2 == 0) {
                    sums[judge.heldBy(p, 0) & all] += p.verdict == ODD ? p.amount : -blockCost;
                }
            }
            for (int k = 0; k < judge.book.size; k++) {
                for (int set = 0; set <= all; set++) {
                    if ((set >> k & 1) == 1) {
                        sums[set] += sums[set ^ 1 << k];
                    }
                }
            }
        }
    }

    private static final class Drift {
        int first = 0;
        int second = 0;
        private int x = 0;
        private int y = 0;

        void tally(Ledger ledger, int sort, int from, int middle, int to) {
            first = 0;
            second = 0;
            x = 0;
            y = 0;
            for (int i = 0; i < ledger.size; i++) {
                Payment p = ledger.inOrder(i);
                if (p == null || p.time < from || p.time >= to) {
                    continue;
                }
                int ofSort = p.sort == sort ? 1 : 0;
                if (p.time < middle) {
                    first++;
                    x += ofSort;
                } else {
                    second++;
                    y += ofSort;
                }
            }
        }

        long tell(int what) {
            switch (what) {
                case 0:
                    return waysAsFar();
                case 1:
                    return choose(first + second, first);
                case 2:
                    return first;
                case 3:
                    return x;
                case 4:
                    return second;
                default:
                    return y;
            }
        }

        private long waysAsFar() {
            int ofSort = x + y;
            int others = first + second - ofSort;
            int seen = apart(x, y);
            long ways = 0;
            for (int k = 0; k <= ofSort; k++) {
                if (apart(k, ofSort - k) >= seen) {
                    ways += choose(ofSort, k) * choose(others, first - k);
                }
            }
            return ways;
        }

        private int apart(int ofFirst, int ofSecond) {
            return Math.abs(ofFirst * second - ofSecond * first);
        }

        private static long choose(int n, int k) {
            if (k < 0 || k > n) {
                return 0;
            }
            long ways = 1;
            for (int i = 1; i <= k; i++) {
                ways = ways * (n - k + i) / i;
            }
            return ways;
        }
    }

    /** Asks of one payment; body 10 + kind is told for worth, 20 + kind for mark. */
    private static final class Asker {
        private static final int TRAIL = 16, DEEPEST = 16;
        private static final int WORTH = 10, MARK = 20;

        final int[] trail = new int[TRAIL];
        int steps = 0;
        private Payment asked = null;
        private int own = 0;
        private int score = 0;

        int answer(int what, Payment p, int ownKind, int ownScore) {
            steps = 0;
            asked = p;
            own = ownKind;
            score = ownScore;
            return body((what == 0 ? WORTH : MARK) + own, 0);
        }

        private int body(int number, int depth) {
            if (depth > DEEPEST || asked == null) {
                return 0;
            }
            if (steps < TRAIL) {
                trail[steps] = number;
                steps++;
            }
            switch (number) {
                case 10:
                    return asked.amount;
                case 11:
                    return body(10, depth + 1) - score;
                case 12:
                    return body(11, depth + 1) / 2;
                case 13:
                    return body(10, depth + 1) + body(MARK + own, depth + 1);
                case 20:
                    return asked.sort;
                case 21:
                    return body(20, depth + 1) + body(WORTH + own, depth + 1);
                case 22:
                    return body(21, depth + 1) + 100;
                case 23:
                    return body(20, depth + 1) + asked.payer;
                default:
                    return 0;
            }
        }
    }
}
