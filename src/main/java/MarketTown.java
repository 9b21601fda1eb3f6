/**
 * A market town lived through day by day. The document (../shared/DOC.md) says what each call
 * answers; words in capitals are its terms. All rows are made in constructors and used again, so
 * that no later call makes anything.
 */
public final class MarketTown {
    public static final int BAD = -1000000001, NO = -1000000002, FULL = -1000000003, NONE = -1000000005;

    private static final int MOST_AGENTS = 12;
    private static final int MOST_CASH = 100000;
    private static final int ALL_CASH = MOST_AGENTS * MOST_CASH;
    private static final int GOODS = 5;
    private static final int AGES = 10;
    private static final int MOST_LIFE = 9;
    private static final int MOST_NEEDED = 9;
    private static final int MOST_GIVEN = 999;
    private static final int MOST_RULES = 6;
    private static final int MOST_LOANS = 20;
    private static final int MOST_DAYS = 30;
    private static final int LAST_DAY = 700;
    private static final int MOST_TAX = 1000;
    private static final int MOST_INTEREST = 100;
    private static final int WORLDS = 3;

    private static final int AGENT = 0, HOUSE = 1, MAKER = 2, SHOP = 3, BANK = 4, COUNCIL = 5;
    private static final int POSTED = 0, CALLED = 1, HAGGLED = 2;
    private static final int FOR_GOODS = 0, FOR_TAX = 1, FOR_PAY = 2, FOR_LENDING = 3, FOR_DEBT = 4, REASONS = 5;
    private static final int MAKE = 0, EAT = 1, ASK = 2, BID = 3, PAY = 4, LEND = 5;
    private static final int IF_CASH = 0, IF_HAVE = 1, IF_DAY = 2, IF_PRICE = 3, IF_ABOVE = 4;
    private static final int FIRST_FAULT = -100;

    private final Town town = new Town();
    private final Town[] worlds = new Town[WORLDS];
    private final boolean[] laidAside = new boolean[WORLDS];
    private final Tape tape = new Tape();
    private final RuleReader reader = new RuleReader();
    private final Day days = new Day();

    public MarketTown() {
        for (int k = 0; k < WORLDS; k++) {
            worlds[k] = new Town();
        }
    }

    // ---- the town

    public int agent(int kind, int cash) {
        if (!isKind(kind) || !isWithin(cash, 0, MOST_CASH)) {
            return BAD;
        }
        if (town.agents >= MOST_AGENTS) {
            return FULL;
        }
        return town.welcome(kind, cash);
    }

    public int give(int agent, int good, int many) {
        if (!town.isThere(agent) || !isGood(good) || !isWithin(many, 1, MOST_GIVEN)) {
            return BAD;
        }
        town.stock.bring(agent, good, many);
        return town.stock.all(agent, good);
    }

    public int good(int good, int life, int market) {
        if (!isGood(good) || !isWithin(life, 0, MOST_LIFE) || !isWithin(market, POSTED, HAGGLED)) {
            return BAD;
        }
        town.wares.put(good, Wares.LIFE, life);
        town.wares.put(good, Wares.MARKET, market);
        return 0;
    }

    public int recipe(int good, int a, int manyA, int b, int manyB) {
        if (!isGood(good) || !isGood(a) || !isGood(b)) {
            return BAD;
        }
        if (!isWithin(manyA, Wares.NO_RECIPE, MOST_NEEDED) || !isWithin(manyB, 0, MOST_NEEDED)) {
            return BAD;
        }
        town.wares.put(good, Wares.GOOD_A, a);
        town.wares.put(good, Wares.MANY_A, manyA);
        town.wares.put(good, Wares.GOOD_B, b);
        town.wares.put(good, Wares.MANY_B, manyB);
        return 0;
    }

    public int policy(int tax, int interest) {
        if (!isWithin(tax, 0, MOST_TAX) || !isWithin(interest, 0, MOST_INTEREST)) {
            return BAD;
        }
        town.tax = tax;
        town.interest = interest;
        return 0;
    }

    public int lots(int v) {
        if (v < 0) {
            return BAD;
        }
        town.lots = v;
        return 0;
    }

    public int feed(int a, int b, int c, int d, int e) {
        if (!tape.hasRoom()) {
            return FULL;
        }
        tape.append(a);
        tape.append(b);
        tape.append(c);
        tape.append(d);
        tape.append(e);
        return tape.length;
    }

    public int trim(int n) {
        if (!isWithin(n, 0, tape.length)) {
            return BAD;
        }
        tape.length = n;
        return n;
    }

    public int rule(int agent) {
        int answer = readRule(agent);
        tape.length = 0;
        return answer;
    }

    private int readRule(int agent) {
        if (!town.isThere(agent)) {
            return BAD;
        }
        if (!reader.understands(tape, agent, town.agents)) {
            return FIRST_FAULT - reader.start;
        }
        return town.rules.append(agent, reader.row);
    }

    public int unrule(int agent) {
        if (!town.isThere(agent)) {
            return BAD;
        }
        return town.rules.dropLast(agent);
    }

    // ---- days

    public int live(int n) {
        if (!isWithin(n, 1, MOST_DAYS) || town.day + n > LAST_DAY) {
            return BAD;
        }
        for (int i = 0; i < n; i++) {
            days.pass(town);
        }
        return town.day;
    }

    // ---- what is

    public int about(int agent, int what) {
        if (!town.isThere(agent)) {
            return BAD;
        }
        switch (what) {
            case 0:
                return town.kind[agent];
            case 1:
                return town.cash[agent];
            case 2:
                return town.broke[agent];
            case 3:
                return town.rules.size[agent];
            case 4:
                return town.loans.owedWhere(Loans.DEBTOR, agent);
            case 5:
                return town.loans.owedWhere(Loans.LENDER, agent);
            case 6:
                return town.place[agent];
            default:
                return BAD;
        }
    }

    public int isOf(int agent, int kind) {
        if (!town.isThere(agent) || !isKind(kind)) {
            return BAD;
        }
        return town.belongs(agent, kind) ? 1 : 0;
    }

    public int has(int agent, int good, int age) {
        if (!town.isThere(agent) || !isGood(good) || !isWithin(age, -1, AGES - 1)) {
            return BAD;
        }
        return age < 0 ? town.stock.all(agent, good) : town.stock.ofAge(agent, good, age);
    }

    public int told(int agent, int rule, int what) {
        if (!town.isThere(agent) || !isWithin(what, 0, Rules.COLUMNS - 1)) {
            return BAD;
        }
        if (!isWithin(rule, 0, town.rules.size[agent] - 1)) {
            return BAD;
        }
        return town.rules.get(agent, rule, what);
    }

    public int goods(int good, int what) {
        if (!isGood(good) || !isWithin(what, 0, Wares.GONE + 1)) {
            return BAD;
        }
        return what <= Wares.GONE ? town.wares.get(good, what) : town.stock.inTown(good);
    }

    public int paid(int from, int to, int reason) {
        if (!town.isThere(from) || !town.isThere(to) || !isWithin(reason, -1, REASONS - 1)) {
            return BAD;
        }
        return reason < 0 ? town.paidInAll(from, to) : town.payments[Town.entry(from, to, reason)];
    }

    public int loan(int i, int what) {
        if (i < 0 || !isWithin(what, 0, Loans.COLUMNS - 1)) {
            return BAD;
        }
        return i < town.loans.size ? town.loans.get(i, what) : NONE;
    }

    public int median(int kind) {
        return isKind(kind) ? town.middleCash(kind) : BAD;
    }

    // ---- worlds

    public int save(int k) {
        if (!isWithin(k, 0, WORLDS - 1)) {
            return BAD;
        }
        worlds[k].become(town);
        laidAside[k] = true;
        return town.day;
    }

    public int load(int k) {
        if (!isWithin(k, 0, WORLDS - 1)) {
            return BAD;
        }
        if (!laidAside[k]) {
            return NO;
        }
        town.become(worlds[k]);
        return town.day;
    }

    public int differs(int k) {
        if (!isWithin(k, 0, WORLDS - 1)) {
            return BAD;
        }
        return laidAside[k] ? town.firstUnlike(worlds[k]) : NO;
    }

    public int count(int what) {
        switch (what) {
            case 0:
                return town.agents;
            case 1:
                return town.day;
            case 2:
                return town.cashInAll();
            case 3:
                return town.loans.size;
            case 4:
                return town.brokeAgents();
            case 5:
                return tape.length;
            case 6:
                return town.lots;
            case 7:
                return town.paidByAll();
            default:
                return BAD;
        }
    }

    private static boolean isWithin(int number, int least, int most) {
        return least <= number && number <= most;
    }

    private static boolean isKind(int kind) {
        return isWithin(kind, AGENT, COUNCIL);
    }

    private static boolean isGood(int good) {
        return isWithin(good, 0, GOODS - 1);
    }

    /** All that a WORLD keeps: AGENTS, goods, RULES, LOANS, BOOKS, DAY, LOTS and THE ORDER. */
    private static final class Town {
        int agents;
        int day;
        int lots = 1;
        int tax;
        int interest;
        final int[] kind = new int[MOST_AGENTS];
        final int[] cash = new int[MOST_AGENTS];
        final int[] broke = new int[MOST_AGENTS];
        final int[] place = new int[MOST_AGENTS];
        final int[] payments = new int[MOST_AGENTS * MOST_AGENTS * REASONS];
        final Stock stock = new Stock();
        final Wares wares = new Wares();
        final Rules rules = new Rules();
        final Loans loans = new Loans();

        boolean isThere(int agent) {
            return isWithin(agent, 0, agents - 1);
        }

        int welcome(int itsKind, int itsCash) {
            int agent = agents;
            kind[agent] = itsKind;
            cash[agent] = itsCash;
            place[agent] = NONE;
            agents++;
            return agent;
        }

        boolean belongs(int agent, int wanted) {
            int own = kind[agent];
            return wanted == AGENT || own == wanted || (wanted == MAKER && own == SHOP);
        }

        int firstCouncil() {
            for (int agent = 0; agent < agents; agent++) {
                if (kind[agent] == COUNCIL) {
                    return agent;
                }
            }
            return NONE;
        }

        static int entry(int from, int to, int reason) {
            return (from * MOST_AGENTS + to) * REASONS + reason;
        }

        void hand(int from, int to, int reason, int sum) {
            cash[from] -= sum;
            cash[to] += sum;
            payments[entry(from, to, reason)] += sum;
        }

        int paidInAll(int from, int to) {
            int sum = 0;
            for (int reason = 0; reason < REASONS; reason++) {
                sum += payments[entry(from, to, reason)];
            }
            return sum;
        }

        int paidByAll() {
            int sum = 0;
            for (int i = 0; i < payments.length; i++) {
                sum += payments[i];
            }
            return sum;
        }

        int cashInAll() {
            int sum = 0;
            for (int agent = 0; agent < agents; agent++) {
                sum += cash[agent];
            }
            return sum;
        }

        int brokeAgents() {
            int many = 0;
            for (int agent = 0; agent < agents; agent++) {
                many += broke[agent];
            }
            return many;
        }

        int middleCash(int wanted) {
            int middle = (cashNotAbove(wanted, ALL_CASH) - 1) / 2;
            for (int agent = 0; agent < agents; agent++) {
                if (belongs(agent, wanted)
                        && cashNotAbove(wanted, cash[agent] - 1) <= middle
                        && cashNotAbove(wanted, cash[agent]) > middle) {
                    return cash[agent];
                }
            }
            return NONE;
        }

        private int cashNotAbove(int wanted, int most) {
            int many = 0;
            for (int agent = 0; agent < agents; agent++) {
                if (belongs(agent, wanted) && cash[agent] <= most) {
                    many++;
                }
            }
            return many;
        }

        int firstUnlike(Town other) {
            int inBoth = Math.min(agents, other.agents);
            for (int agent = 0; agent < inBoth; agent++) {
                if (cash[agent] != other.cash[agent] || !stock.isAlike(other.stock, agent)) {
                    return agent;
                }
            }
            return agents == other.agents ? NONE : inBoth;
        }

        void become(Town other) {
            agents = other.agents;
            day = other.day;
            lots = other.lots;
            tax = other.tax;
            interest = other.interest;
            System.arraycopy(other.kind, 0, kind, 0, kind.length);
            System.arraycopy(other.cash, 0, cash, 0, cash.length);
            System.arraycopy(other.broke, 0, broke, 0, broke.length);
            System.arraycopy(other.place, 0, place, 0, place.length);
            System.arraycopy(other.payments, 0, payments, 0, payments.length);
            stock.become(other.stock);
            wares.become(other.wares);
            rules.become(other.rules);
            loans.become(other.loans);
        }
    }

    /** The pieces that AGENTS have, by goods and AGES, with their sums at hand. */
    private static final class Stock {
        private final int[] pieces = new int[MOST_AGENTS * GOODS * AGES];
        private final int[] sums = new int[MOST_AGENTS * GOODS];

        int all(int agent, int good) {
            return sums[agent * GOODS + good];
        }

        int ofAge(int agent, int good, int age) {
            return pieces[(agent * GOODS + good) * AGES + age];
        }

        int inTown(int good) {
            int many = 0;
            for (int agent = 0; agent < MOST_AGENTS; agent++) {
                many += all(agent, good);
            }
            return many;
        }

        void bring(int agent, int good, int many) {
            int pile = agent * GOODS + good;
            pieces[pile * AGES] += many;
            sums[pile] += many;
        }

        void use(int agent, int good, int many) {
            int pile = agent * GOODS + good;
            int left = many;
            for (int age = AGES - 1; age >= 0 && left > 0; age--) {
                int some = Math.min(left, pieces[pile * AGES + age]);
                pieces[pile * AGES + age] -= some;
                left -= some;
            }
            sums[pile] -= many - left;
        }

        void carry(int from, int to, int good, int many) {
            int source = from * GOODS + good;
            int target = to * GOODS + good;
            int left = many;
            for (int age = AGES - 1; age >= 0 && left > 0; age--) {
                int some = Math.min(left, pieces[source * AGES + age]);
                pieces[source * AGES + age] -= some;
                pieces[target * AGES + age] += some;
                left -= some;
            }
            sums[source] -= many - left;
            sums[target] += many - left;
        }

        /** A day more for all pieces of a good; the answer is how many are gone by that. */
        int grow(int good, int life) {
            int gone = 0;
            for (int agent = 0; agent < MOST_AGENTS; agent++) {
                int pile = agent * GOODS + good;
                if (sums[pile] > 0) {
                    shiftAges(pile * AGES);
                    int spoilt = life > 0 ? takeFromAge(pile * AGES, life) : 0;
                    sums[pile] -= spoilt;
                    gone += spoilt;
                }
            }
            return gone;
        }

        private void shiftAges(int start) {
            int oldest = start + AGES - 1;
            pieces[oldest] += pieces[oldest - 1];
            for (int i = oldest - 1; i > start; i--) {
                pieces[i] = pieces[i - 1];
            }
            pieces[start] = 0;
        }

        private int takeFromAge(int start, int least) {
            int taken = 0;
            for (int age = least; age < AGES; age++) {
                taken += pieces[start + age];
                pieces[start + age] = 0;
            }
            return taken;
        }

        boolean isAlike(Stock other, int agent) {
            int end = (agent + 1) * GOODS * AGES;
            for (int i = agent * GOODS * AGES; i < end; i++) {
                if (pieces[i] != other.pieces[i]) {
                    return false;
                }
            }
            return true;
        }

        void become(Stock other) {
            System.arraycopy(other.pieces, 0, pieces, 0, pieces.length);
            System.arraycopy(other.sums, 0, sums, 0, sums.length);
        }
    }

    /** What is known of each good; the columns up to GONE are numbered as the document asks for them. */
    private static final class Wares {
        static final int LIFE = 0, MARKET = 1, PRICE = 2, SOLD = 3, EATEN = 4, MADE = 5, GONE = 6;
        static final int GOOD_A = 7, MANY_A = 8, GOOD_B = 9, MANY_B = 10, COLUMNS = 11;
        static final int NO_RECIPE = -1;

        private final int[] cells = new int[GOODS * COLUMNS];

        Wares() {
            for (int good = 0; good < GOODS; good++) {
                cells[good * COLUMNS + MANY_A] = NO_RECIPE;
            }
        }

        int get(int good, int column) {
            return cells[good * COLUMNS + column];
        }

        void put(int good, int column, int number) {
            cells[good * COLUMNS + column] = number;
        }

        void increase(int good, int column, int many) {
            cells[good * COLUMNS + column] += many;
        }

        void become(Wares other) {
            System.arraycopy(other.cells, 0, cells, 0, cells.length);
        }
    }

    /** RULES of all AGENTS; the columns are numbered as the document asks for them. */
    private static final class Rules {
        static final int ACT = 0, FIRST = 1, SECOND = 2, THIRD = 3, EVERY = 4;
        static final int COND = 5, COND_GOOD = 6, COND_NUMBER = 7, FIRED = 8, COLUMNS = 9;

        final int[] size = new int[MOST_AGENTS];
        private final int[] cells = new int[MOST_AGENTS * MOST_RULES * COLUMNS];

        private static int start(int agent, int rule) {
            return (agent * MOST_RULES + rule) * COLUMNS;
        }

        int get(int agent, int rule, int column) {
            return cells[start(agent, rule) + column];
        }

        void countFire(int agent, int rule) {
            cells[start(agent, rule) + FIRED]++;
        }

        int append(int agent, int[] row) {
            int rule = size[agent];
            if (rule >= MOST_RULES) {
                return FULL;
            }
            System.arraycopy(row, 0, cells, start(agent, rule), COLUMNS);
            size[agent]++;
            return rule;
        }

        int dropLast(int agent) {
            if (size[agent] <= 0) {
                return NO;
            }
            size[agent]--;
            return size[agent];
        }

        void become(Rules other) {
            System.arraycopy(other.size, 0, size, 0, size.length);
            System.arraycopy(other.cells, 0, cells, 0, cells.length);
        }
    }

    /** Open LOANS as they were lent; the columns are numbered as the document asks for them. */
    private static final class Loans {
        static final int LENDER = 0, DEBTOR = 1, OWED = 2, DUE = 3, COLUMNS = 4;
        private static final int CLOSED = 0;

        int size;
        private final int[] cells = new int[MOST_LOANS * COLUMNS];

        int get(int i, int column) {
            return cells[i * COLUMNS + column];
        }

        boolean hasRoom() {
            return size < MOST_LOANS;
        }

        void append(int lender, int debtor, int owed, int due) {
            if (!hasRoom()) {
                return;
            }
            int start = size * COLUMNS;
            cells[start + LENDER] = lender;
            cells[start + DEBTOR] = debtor;
            cells[start + OWED] = owed;
            cells[start + DUE] = due;
            size++;
        }

        int owedWhere(int column, int agent) {
            int sum = 0;
            for (int i = 0; i < size; i++) {
                if (get(i, column) == agent) {
                    sum += get(i, OWED);
                }
            }
            return sum;
        }

        void fallDue(Town town) {
            for (int i = 0; i < size; i++) {
                if (get(i, OWED) != CLOSED && get(i, DUE) == town.day) {
                    settle(town, i, get(i, DEBTOR));
                }
            }
            forgetClosed();
        }

        private void settle(Town town, int i, int debtor) {
            if (town.cash[debtor] >= get(i, OWED)) {
                town.hand(debtor, get(i, LENDER), FOR_DEBT, get(i, OWED));
                close(i);
            } else {
                town.broke[debtor] = 1;
                shareOut(town, debtor, town.cash[debtor], owedWhere(DEBTOR, debtor));
                handOutRest(town, debtor);
            }
        }

        private void close(int i) {
            cells[i * COLUMNS + OWED] = CLOSED;
        }

        private void shareOut(Town town, int debtor, long purse, long owedInAll) {
            for (int i = 0; i < size; i++) {
                if (get(i, DEBTOR) == debtor && owedInAll > 0) {
                    int share = (int) (purse * get(i, OWED) / owedInAll);
                    town.hand(debtor, get(i, LENDER), FOR_DEBT, share);
                }
            }
        }

        /** The cut shares leave fewer coins than there are LOANS of the debtor, so one round is enough. */
        private void handOutRest(Town town, int debtor) {
            for (int i = 0; i < size; i++) {
                if (get(i, DEBTOR) == debtor && get(i, OWED) != CLOSED) {
                    town.hand(debtor, get(i, LENDER), FOR_DEBT, Math.min(1, town.cash[debtor]));
                    close(i);
                }
            }
        }

        private void forgetClosed() {
            int kept = 0;
            for (int i = 0; i < size; i++) {
                if (get(i, OWED) != CLOSED) {
                    System.arraycopy(cells, i * COLUMNS, cells, kept * COLUMNS, COLUMNS);
                    kept++;
                }
            }
            size = kept;
        }

        void become(Loans other) {
            size = other.size;
            System.arraycopy(other.cells, 0, cells, 0, cells.length);
        }
    }

    /** THE TAPE. */
    private static final class Tape {
        private static final int MOST_BYTES = 60;
        private static final int BYTES_FED = 20;
        private static final int BYTES_OF_INT = 4;
        private static final int BLANK = 32;

        int length;
        private final int[] bytes = new int[MOST_BYTES];

        boolean hasRoom() {
            return length + BYTES_FED <= MOST_BYTES;
        }

        void append(int number) {
            for (int i = BYTES_OF_INT - 1; i >= 0 && length < MOST_BYTES; i--) {
                bytes[length] = (number >>> (8 * i)) & 255;
                length++;
            }
        }

        int byteAt(int place) {
            return 0 <= place && place < length ? bytes[place] : BLANK;
        }

        /** The first place from this one on that is blank, or is not; or the place behind the last byte. */
        int next(int from, boolean blank) {
            int place = from;
            while (place < length && (bytes[place] == BLANK) != blank) {
                place++;
            }
            return place;
        }
    }

    /** Reads THE TAPE as a RULE; of one that it does not understand, start is the place of the fault. */
    private static final class RuleReader {
        private static final int MOST_NUMBER = 9999;
        private static final int MOST_EVERY = 99;
        private static final int MOST_OF_ACT = 999;
        private static final int MOST_PRICE = 999;
        private static final int MOST_TERM = 30;
        private static final int FAULT = -1;

        final int[] row = new int[Rules.COLUMNS];
        int start;
        private int end;

        boolean understands(Tape tape, int self, int agents) {
            clearRow();
            end = 0;
            nextWord(tape);
            if (isWord(tape, "every") && !(reads(tape, Rules.EVERY, 1, MOST_EVERY) && nextWord(tape))) {
                return false;
            }
            if (isWord(tape, "if") && !(readsCond(tape) && nextWord(tape))) {
                return false;
            }
            return readsAct(tape, self, agents) && !nextWord(tape);
        }

        private void clearRow() {
            for (int column = 0; column < Rules.COLUMNS; column++) {
                row[column] = NONE;
            }
            row[Rules.EVERY] = 1;
            row[Rules.FIRED] = 0;
        }

        /** At the end the word is empty and starts behind the last byte, where that fault is told. */
        private boolean nextWord(Tape tape) {
            start = tape.next(end, false);
            end = tape.next(start, true);
            return start < end;
        }

        private boolean isWord(Tape tape, String word) {
            if (end - start != word.length()) {
                return false;
            }
            for (int i = 0; i < word.length(); i++) {
                if (tape.byteAt(start + i) != word.charAt(i)) {
                    return false;
                }
            }
            return true;
        }

        private boolean readsCond(Tape tape) {
            nextWord(tape);
            int cond = condOf(tape);
            if (cond == FAULT) {
                return false;
            }
            boolean ofGood = cond == IF_HAVE || cond == IF_PRICE;
            if (ofGood && !reads(tape, Rules.COND_GOOD, 0, GOODS - 1)) {
                return false;
            }
            nextWord(tape);
            boolean above = isWord(tape, ">");
            if (!above && !isWord(tape, "<")) {
                return false;
            }
            row[Rules.COND] = above ? cond + IF_ABOVE : cond;
            return reads(tape, Rules.COND_NUMBER, 0, MOST_NUMBER);
        }

        private int condOf(Tape tape) {
            if (isWord(tape, "cash")) {
                return IF_CASH;
            }
            if (isWord(tape, "have")) {
                return IF_HAVE;
            }
            if (isWord(tape, "day")) {
                return IF_DAY;
            }
            return isWord(tape, "price") ? IF_PRICE : FAULT;
        }

        private boolean readsAct(Tape tape, int self, int agents) {
            int act = actOf(tape);
            if (act == FAULT) {
                return false;
            }
            row[Rules.ACT] = act;
            boolean ofAgent = act == PAY || act == LEND;
            if (!reads(tape, Rules.FIRST, 0, ofAgent ? agents - 1 : GOODS - 1)) {
                return false;
            }
            if (ofAgent && row[Rules.FIRST] == self) {
                return false;
            }
            if (!reads(tape, Rules.SECOND, 1, MOST_OF_ACT)) {
                return false;
            }
            switch (act) {
                case ASK:
                case BID:
                    return reads(tape, Rules.THIRD, 1, MOST_PRICE);
                case LEND:
                    return reads(tape, Rules.THIRD, 1, MOST_TERM);
                default:
                    return true;
            }
        }

        private int actOf(Tape tape) {
            if (isWord(tape, "make")) {
                return MAKE;
            }
            if (isWord(tape, "eat")) {
                return EAT;
            }
            if (isWord(tape, "ask")) {
                return ASK;
            }
            if (isWord(tape, "bid")) {
                return BID;
            }
            if (isWord(tape, "pay")) {
                return PAY;
            }
            return isWord(tape, "lend") ? LEND : FAULT;
        }

        private boolean reads(Tape tape, int column, int least, int most) {
            int number = nextWord(tape) ? number(tape) : FAULT;
            if (!isWithin(number, least, most)) {
                return false;
            }
            row[column] = number;
            return true;
        }

        /** The NUMBER that the word is, or FAULT, which lies below whatever may stand anywhere. */
        private int number(Tape tape) {
            int number = 0;
            for (int place = start; place < end; place++) {
                int digit = tape.byteAt(place) - '0';
                if (!isWithin(digit, 0, 9)) {
                    return FAULT;
                }
                number = number * 10 + digit;
                if (number > MOST_NUMBER) {
                    return FAULT;
                }
            }
            return number;
        }
    }

    /** The asks, or the bids, of a day, as they came; and those of one good in the order they are served in. */
    private static final class Offers {
        static final int CHEAPEST_FIRST = 1, AS_THEY_CAME = 0, DEAREST_FIRST = -1;
        private static final int MOST = MOST_AGENTS * MOST_RULES;

        final int[] agent = new int[MOST];
        final int[] price = new int[MOST];
        final int[] left = new int[MOST];
        final int[] picked = new int[MOST];
        int picks;
        private final int[] ware = new int[MOST];
        private int size;

        void clear() {
            size = 0;
            picks = 0;
        }

        void append(int whose, int good, int many, int itsPrice) {
            if (size >= MOST) {
                return;
            }
            agent[size] = whose;
            ware[size] = good;
            left[size] = many;
            price[size] = itsPrice;
            size++;
        }

        void pick(int good, int order) {
            picks = 0;
            for (int i = 0; i < size; i++) {
                if (ware[i] == good) {
                    insert(i, order);
                }
            }
        }

        /** An offer goes ahead of those that are worse alone, so the earlier of like ones stays ahead. */
        private void insert(int offer, int order) {
            int at = picks;
            while (at > 0 && order * price[picked[at - 1]] > order * price[offer]) {
                picked[at] = picked[at - 1];
                at--;
            }
            picked[at] = offer;
            picks++;
        }
    }

    /** The offers of a day, what they leave FREE, and the MARKETS that serve them. */
    private static final class Market {
        private final Offers asks = new Offers();
        private final Offers bids = new Offers();
        private final int[] offered = new int[MOST_AGENTS * GOODS];
        private final int[] held = new int[MOST_AGENTS];
        private int council;

        void clear() {
            asks.clear();
            bids.clear();
            for (int pile = 0; pile < offered.length; pile++) {
                offered[pile] = 0;
            }
            for (int agent = 0; agent < held.length; agent++) {
                held[agent] = 0;
            }
        }

        int freeOf(Town town, int agent, int good) {
            return town.stock.all(agent, good) - offered[agent * GOODS + good];
        }

        int freeCash(Town town, int agent) {
            return town.cash[agent] - held[agent];
        }

        void ask(Town town, int agent, int good, int wanted, int price) {
            int many = Math.min(wanted, freeOf(town, agent, good));
            if (many > 0) {
                asks.append(agent, good, many, price);
                offered[agent * GOODS + good] += many;
            }
        }

        void bid(Town town, int agent, int good, int wanted, int price) {
            int many = price > 0 ? Math.min(wanted, freeCash(town, agent) / price) : 0;
            if (many > 0) {
                bids.append(agent, good, many, price);
                held[agent] += many * price;
            }
        }

        void open(Town town) {
            council = town.firstCouncil();
            for (int good = 0; good < GOODS; good++) {
                int kind = town.wares.get(good, Wares.MARKET);
                asks.pick(good, Offers.CHEAPEST_FIRST);
                bids.pick(good, kind == POSTED ? Offers.AS_THEY_CAME : Offers.DEAREST_FIRST);
                serve(town, good, kind, kind == CALLED ? calledPrice() : 0);
            }
        }

        /**
         * Asks from the cheapest on meet bids from the dearest on as long as they agree: no price moves
         * more, and below the price of the last ask so reached there are too few asks for as many.
         */
        private int calledPrice() {
            int price = 0;
            int a = 0;
            int b = 0;
            int supply = 0;
            int demand = 0;
            while (a < asks.picks && b < bids.picks && agree(a, b)) {
                price = asks.price[asks.picked[a]];
                int supplyThen = supply + asks.left[asks.picked[a]];
                int demandThen = demand + bids.left[bids.picked[b]];
                if (supplyThen < demandThen) {
                    supply = supplyThen;
                    a++;
                } else {
                    demand = demandThen;
                    b++;
                }
            }
            return price;
        }

        private boolean agree(int a, int b) {
            return asks.price[asks.picked[a]] <= bids.price[bids.picked[b]];
        }

        /** In each MARKET the next bid takes of the cheapest ask left; they differ in the order and the price. */
        private void serve(Town town, int good, int kind, int called) {
            int a = 0;
            int b = 0;
            while (a < asks.picks && b < bids.picks) {
                int ask = asks.picked[a];
                int bid = bids.picked[b];
                if (agree(a, b)) {
                    trade(town, good, ask, bid, priceOf(kind, ask, bid, called));
                }
                if (asks.left[ask] == 0) {
                    a++;
                } else {
                    b++;
                }
            }
        }

        private int priceOf(int kind, int ask, int bid, int called) {
            switch (kind) {
                case CALLED:
                    return called;
                case HAGGLED:
                    return (bids.price[bid] + asks.price[ask]) / 2;
                default:
                    return asks.price[ask];
            }
        }

        private void trade(Town town, int good, int ask, int bid, int price) {
            int many = Math.min(asks.left[ask], bids.left[bid]);
            if (many <= 0) {
                return;
            }
            asks.left[ask] -= many;
            bids.left[bid] -= many;
            int sum = price * many;
            int seller = asks.agent[ask];
            town.hand(bids.agent[bid], seller, FOR_GOODS, sum);
            if (council != NONE) {
                town.hand(seller, council, FOR_TAX, (int) ((long) sum * town.tax / MOST_TAX));
            }
            town.stock.carry(seller, bids.agent[bid], good, many);
            town.wares.put(good, Wares.PRICE, price);
            town.wares.increase(good, Wares.SOLD, many);
        }
    }

    /** A day's course. */
    private static final class Day {
        private static final long FACTOR = 1103515245, STEP = 12345, MODULUS = 2147483648L;
        private static final int LOW_PART = 65536;

        private final int[] order = new int[MOST_AGENTS];
        private final Market market = new Market();

        void pass(Town town) {
            drawOrder(town);
            market.clear();
            for (int i = 0; i < town.agents; i++) {
                if (town.broke[order[i]] == 0) {
                    followRules(town, order[i]);
                }
            }
            market.open(town);
            town.loans.fallDue(town);
            for (int good = 0; good < GOODS; good++) {
                int gone = town.stock.grow(good, town.wares.get(good, Wares.LIFE));
                town.wares.increase(good, Wares.GONE, gone);
            }
            town.day++;
        }

        private void drawOrder(Town town) {
            for (int i = 0; i < town.agents; i++) {
                order[i] = i;
            }
            for (int i = town.agents - 1; i >= 1; i--) {
                town.lots = (int) ((town.lots * FACTOR + STEP) % MODULUS);
                int j = town.lots / LOW_PART % (i + 1);
                int other = order[j];
                order[j] = order[i];
                order[i] = other;
            }
            for (int i = 0; i < town.agents; i++) {
                town.place[order[i]] = i;
            }
        }

        private void followRules(Town town, int agent) {
            for (int rule = 0; rule < town.rules.size[agent]; rule++) {
                if (fires(town, agent, rule)) {
                    town.rules.countFire(agent, rule);
                    act(town, agent, rule);
                }
            }
        }

        private static boolean fires(Town town, int agent, int rule) {
            int every = town.rules.get(agent, rule, Rules.EVERY);
            return mayAct(town, agent, town.rules.get(agent, rule, Rules.ACT))
                    && every > 0 && town.day % every == 0
                    && condHolds(town, agent, rule);
        }

        private static boolean mayAct(Town town, int agent, int act) {
            switch (act) {
                case MAKE:
                    return town.belongs(agent, MAKER);
                case EAT:
                    return town.belongs(agent, HOUSE);
                case LEND:
                    return town.belongs(agent, BANK) || town.belongs(agent, COUNCIL);
                default:
                    return true;
            }
        }

        private static boolean condHolds(Town town, int agent, int rule) {
            int cond = town.rules.get(agent, rule, Rules.COND);
            if (cond == NONE) {
                return true;
            }
            boolean above = cond >= IF_ABOVE;
            int subject = above ? cond - IF_ABOVE : cond;
            int number = subjectOf(town, agent, subject, town.rules.get(agent, rule, Rules.COND_GOOD));
            int bound = town.rules.get(agent, rule, Rules.COND_NUMBER);
            return above ? number > bound : number < bound;
        }

        private static int subjectOf(Town town, int agent, int subject, int good) {
            switch (subject) {
                case IF_CASH:
                    return town.cash[agent];
                case IF_HAVE:
                    return town.stock.all(agent, good);
                case IF_DAY:
                    return town.day;
                default:
                    return town.wares.get(good, Wares.PRICE);
            }
        }

        private void act(Town town, int agent, int rule) {
            int first = town.rules.get(agent, rule, Rules.FIRST);
            int many = town.rules.get(agent, rule, Rules.SECOND);
            int third = town.rules.get(agent, rule, Rules.THIRD);
            switch (town.rules.get(agent, rule, Rules.ACT)) {
                case MAKE:
                    make(town, agent, first, many);
                    break;
                case EAT:
                    eat(town, agent, first, many);
                    break;
                case ASK:
                    market.ask(town, agent, first, many, third);
                    break;
                case BID:
                    market.bid(town, agent, first, many, third);
                    break;
                case PAY:
                    town.hand(agent, first, FOR_PAY, Math.min(many, market.freeCash(town, agent)));
                    break;
                default:
                    lend(town, agent, first, many, third);
                    break;
            }
        }

        private void make(Town town, int agent, int good, int wanted) {
            int a = town.wares.get(good, Wares.GOOD_A);
            int b = town.wares.get(good, Wares.GOOD_B);
            int needA = town.wares.get(good, Wares.MANY_A);
            int needB = town.wares.get(good, Wares.MANY_B);
            if (needA == Wares.NO_RECIPE) {
                return;
            }
            if (a == b) {
                needA += needB;
                needB = 0;
            }
            int many = Math.min(allowed(wanted, needA, market.freeOf(town, agent, a)),
                    allowed(wanted, needB, market.freeOf(town, agent, b)));
            town.stock.use(agent, a, many * needA);
            town.stock.use(agent, b, many * needB);
            town.stock.bring(agent, good, many);
            town.wares.increase(good, Wares.MADE, many);
        }

        private static int allowed(int wanted, int need, int free) {
            return need > 0 ? Math.min(wanted, free / need) : wanted;
        }

        private void eat(Town town, int agent, int good, int wanted) {
            int many = Math.min(wanted, market.freeOf(town, agent, good));
            town.stock.use(agent, good, many);
            town.wares.increase(good, Wares.EATEN, many);
        }

        private void lend(Town town, int agent, int debtor, int wanted, int term) {
            int sum = Math.min(wanted, market.freeCash(town, agent));
            if (sum > 0 && town.loans.hasRoom()) {
                town.hand(agent, debtor, FOR_LENDING, sum);
                town.loans.append(agent, debtor, sum + sum * town.interest / MOST_INTEREST, town.day + term);
            }
        }
    }
}
