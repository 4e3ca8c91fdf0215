/**
 * A book for money that a solicitor keeps for clients.
 *
 * The face below only leads calls to the parts: State is everything that undo restores, History holds
 * the saved states, OrderText is the text, and Ranking sorts clients. All rows are made in the
 * constructor; no call makes an object.
 */
public final class ClientMoneyBook {
    public static final int NO_SUCH = -1;
    public static final int BAD_VALUE = -2;
    public static final int NOT_POSSIBLE = -3;
    public static final int LIMIT = -4;
    public static final int BAD_TEXT = -5;
    public static final int NONE = -6;

    private static final int MOST_CLIENTS = 12;
    private static final int HIGHEST_CLIENT = 99;
    private static final int HIGHEST_BALANCE = 1000000000;
    private static final int HIGHEST_AMOUNT = 100000000;
    private static final int HIGHEST_LIMIT = 1000000000;
    private static final int HIGHEST_RATE = 2000;
    private static final int HIGHEST_THRESHOLD = 10000;
    private static final int LAST_DAY = 9999;
    private static final int MOST_DAYS_AT_ONCE = 400;
    private static final int MOST_DAYS_OF_HOLD = 999;
    private static final int DAYS_PER_CREDIT = 30;
    /** Hundredths of a percent times days of a year: what one cent of interest takes from the count. */
    private static final long COUNT_PER_CENT = 3650000L;
    private static final int MOST_ROWS = 15;
    private static final int KEPT_ENTRIES = 24;
    private static final int MOST_SAVED = 6;
    private static final int MOST_CHARACTERS = 80;
    private static final int MOST_DIGITS = 6;

    private static final int RECEIPT = 1;
    private static final int PAYMENT = 2;
    private static final int TRANSFER = 3;
    private static final int SETTLEMENT = 4;
    private static final int INTEREST = 5;
    private static final int REVERSAL = 6;

    private static final long FIRST_HASH = 202L;

    private final State state;
    private final History history;
    private final OrderText text;
    private final Ranking ranking;

    public ClientMoneyBook() {
        state = new State();
        history = new History();
        text = new OrderText();
        ranking = new Ranking();
    }

    // ---- settings

    public int setRates(int limit, int low, int high) {
        history.prepare(state);
        return keptUnlessError(state.changeRates(limit, low, high));
    }

    public int setThreshold(int threshold) {
        history.prepare(state);
        return keptUnlessError(state.changeThreshold(threshold));
    }

    // ---- clients

    public int open(int client) {
        history.prepare(state);
        return keptUnlessError(state.openAccount(client));
    }

    public int close(int client) {
        history.prepare(state);
        return keptUnlessError(state.closeAccount(client));
    }

    // ---- money

    public int receive(int client, int amount) {
        history.prepare(state);
        return keptUnlessError(state.takeReceipt(client, amount));
    }

    public int pay(int client, int amount) {
        history.prepare(state);
        return keptUnlessError(state.makePayment(client, amount));
    }

    public int transfer(int from, int to, int amount) {
        history.prepare(state);
        return keptUnlessError(state.makeTransfer(from, to, amount));
    }

    public int hold(int client, int amount, int days) {
        history.prepare(state);
        return keptUnlessError(state.makeHold(client, amount, days));
    }

    public int release(int hold) {
        history.prepare(state);
        return keptUnlessError(state.endHold(hold));
    }

    public int bill(int client, int amount) {
        history.prepare(state);
        return keptUnlessError(state.writeBill(client, amount));
    }

    public int settle(int bill) {
        history.prepare(state);
        return keptUnlessError(state.settleBill(bill));
    }

    public long pass(int days) {
        history.prepare(state);
        long answer = state.letPass(days);
        if (answer >= 0) {
            history.keep();
        }
        return answer;
    }

    public int reverse(int entry) {
        history.prepare(state);
        return keptUnlessError(state.reverseEntry(entry));
    }

    // ---- asking

    public int day() {
        return state.day;
    }

    public int clients() {
        return state.accounts.size;
    }

    public int ranked(int order, int rank) {
        if (order < 0 || order > 3) {
            return BAD_VALUE;
        }
        if (rank < 0 || rank >= state.accounts.size) {
            return NO_SUCH;
        }
        ranking.sort(state, order);
        return ranking.clientAt(rank);
    }

    public int of(int client, int what) {
        int at = state.accounts.find(client);
        if (at < 0) {
            return NO_SUCH;
        }
        return state.aboutClient(at, what);
    }

    public int holdOf(int hold, int what) {
        return aboutRow(state.holds, hold, what);
    }

    public int billOf(int bill, int what) {
        return aboutRow(state.bills, bill, what);
    }

    public int entries() {
        return state.trail.made;
    }

    public int entry(int entry, int what) {
        if (!state.trail.keeps(entry)) {
            return NO_SUCH;
        }
        if (what < 0 || what > Trail.REVERSED) {
            return BAD_VALUE;
        }
        return state.trail.get(entry, what);
    }

    public long sum(int what) {
        switch (what) {
            case 0:
                return state.accounts.sumOfBalances();
            case 1:
                return state.holds.sumOfAll(Rows.AMOUNT);
            case 2:
                return state.office;
            case 3:
                return state.credited;
            case 4:
                return state.receipts;
            case 5:
                return state.payments;
            default:
                return BAD_VALUE;
        }
    }

    // ---- forecasts; they change nothing

    public int payableOn(int client, int amount) {
        int at = state.accounts.find(client);
        if (at < 0) {
            return NO_SUCH;
        }
        if (!isAmount(amount)) {
            return BAD_VALUE;
        }
        return state.firstDayWithFree(at, amount);
    }

    public int interestIn(int client, int days) {
        int at = state.accounts.find(client);
        if (at < 0) {
            return NO_SUCH;
        }
        if (days < 1 || days > MOST_DAYS_AT_ONCE) {
            return BAD_VALUE;
        }
        return state.interestAhead(at, days);
    }

    // ---- text

    public int type(int code) {
        if (code < 33 || code > 126) {
            return BAD_VALUE;
        }
        if (text.length >= MOST_CHARACTERS) {
            return LIMIT;
        }
        return text.append((char) code);
    }

    public int clearText() {
        return text.empty();
    }

    public int syntaxError() {
        return text.firstError();
    }

    public int carryOut() {
        if (text.firstError() != NONE) {
            return BAD_TEXT;
        }
        history.prepare(state);
        int done = 0;
        text.startReading();
        for (int i = 0; i < MOST_CHARACTERS && text.readOrder(); i++) {
            if (carryOutOrder() < 0) {
                break;
            }
            done++;
        }
        text.empty();
        history.keep();
        return done;
    }

    // ---- undo

    public int undo() {
        if (history.saved == 0) {
            return NOT_POSSIBLE;
        }
        return history.restoreLatest(state);
    }

    public long digest() {
        long hash = 31 * FIRST_HASH + state.day;
        hash = 31 * hash + state.accounts.size;
        hash = hashOfClients(hash);
        hash = hashOfRows(hash, state.holds);
        hash = hashOfRows(hash, state.bills);
        hash = hashOfTrail(hash);
        hash = hashOfRanks(hash);
        for (int what = 0; what <= 5; what++) {
            hash = 31 * hash + sum(what);
        }
        return hash;
    }

    private int keptUnlessError(int answer) {
        if (answer >= 0) {
            history.keep();
        }
        return answer;
    }

    /** What holdOf and billOf ask: the columns after the number stand in the order of their numbers. */
    private static int aboutRow(Rows rows, int number, int what) {
        int row = rows.find(number);
        if (row < 0) {
            return NO_SUCH;
        }
        if (what < 0 || what > 2) {
            return BAD_VALUE;
        }
        return rows.get(row, Rows.CLIENT + what);
    }

    private static boolean isAmount(int amount) {
        return amount >= 1 && amount <= HIGHEST_AMOUNT;
    }

    private static int nextCreditDay(int day) {
        return day - day % DAYS_PER_CREDIT + DAYS_PER_CREDIT;
    }

    private long carryOutOrder() {
        switch (text.letter) {
            case 'r':
                return state.takeReceipt(text.first, text.second);
            case 'p':
                return state.makePayment(text.first, text.second);
            case 't':
                return state.makeTransfer(text.first, text.second, text.third);
            case 'b':
                return state.writeBill(text.first, text.second);
            case 's':
                return state.settleBill(text.first);
            case 'd':
                return state.letPass(text.first);
            default:
                return BAD_TEXT;
        }
    }

    private long hashOfClients(long start) {
        long hash = start;
        for (int at = 0; at < state.accounts.size; at++) {
            hash = 31 * hash + state.accounts.numberAt(at);
            for (int what = 0; what <= 7; what++) {
                hash = 31 * hash + state.aboutClient(at, what);
            }
        }
        return hash;
    }

    private static long hashOfRows(long start, Rows rows) {
        long hash = start;
        for (int row = 0; row < rows.size; row++) {
            for (int column = 0; column < Rows.COLUMNS; column++) {
                hash = 31 * hash + rows.get(row, column);
            }
        }
        return hash;
    }

    private long hashOfTrail(long start) {
        Trail trail = state.trail;
        long hash = 31 * start + trail.made;
        for (int back = KEPT_ENTRIES - 1; back >= 0; back--) {
            int entry = trail.made - back;
            if (trail.keeps(entry)) {
                for (int what = 0; what <= Trail.REVERSED; what++) {
                    hash = 31 * hash + trail.get(entry, what);
                }
            }
        }
        return hash;
    }

    private long hashOfRanks(long start) {
        long hash = start;
        for (int order = 1; order <= 3; order++) {
            ranking.sort(state, order);
            for (int rank = 0; rank < state.accounts.size; rank++) {
                hash = 31 * hash + ranking.clientAt(rank);
            }
        }
        return hash;
    }

    /** Everything that undo restores, and what the orders do with it. An error code changes nothing. */
    private static final class State {
        final Accounts accounts = new Accounts();
        final Rows holds = new Rows();
        final Rows bills = new Rows();
        final Trail trail = new Trail();
        int day = 0;
        int limit = 100000;
        int low = 100;
        int high = 250;
        int threshold = 20;
        long office = 0;
        long credited = 0;
        long receipts = 0;
        long payments = 0;

        void copyFrom(State other) {
            accounts.copyFrom(other.accounts);
            holds.copyFrom(other.holds);
            bills.copyFrom(other.bills);
            trail.copyFrom(other.trail);
            day = other.day;
            limit = other.limit;
            low = other.low;
            high = other.high;
            threshold = other.threshold;
            office = other.office;
            credited = other.credited;
            receipts = other.receipts;
            payments = other.payments;
        }

        int changeRates(int newLimit, int newLow, int newHigh) {
            if (newLimit < 0 || newLimit > HIGHEST_LIMIT || newLow < 0 || newLow > HIGHEST_RATE
                    || newHigh < 0 || newHigh > HIGHEST_RATE) {
                return BAD_VALUE;
            }
            int previous = limit;
            limit = newLimit;
            low = newLow;
            high = newHigh;
            return previous;
        }

        int changeThreshold(int newThreshold) {
            if (newThreshold < 0 || newThreshold > HIGHEST_THRESHOLD) {
                return BAD_VALUE;
            }
            int previous = threshold;
            threshold = newThreshold;
            return previous;
        }

        int openAccount(int client) {
            if (client < 1 || client > HIGHEST_CLIENT) {
                return BAD_VALUE;
            }
            if (accounts.find(client) >= 0) {
                return NOT_POSSIBLE;
            }
            if (accounts.size >= MOST_CLIENTS) {
                return LIMIT;
            }
            accounts.insert(client, day);
            return accounts.size;
        }

        int closeAccount(int client) {
            int at = accounts.find(client);
            if (at < 0) {
                return NO_SUCH;
            }
            if (accounts.balanceAt(at) != 0 || bills.countOf(client) > 0) {
                return NOT_POSSIBLE;
            }
            // Without a balance there is no held sum, so no hold loses its client here.
            accounts.remove(at);
            return accounts.size;
        }

        int takeReceipt(int client, int amount) {
            int at = accounts.find(client);
            if (at < 0) {
                return NO_SUCH;
            }
            if (!isAmount(amount)) {
                return BAD_VALUE;
            }
            if (accounts.balanceAt(at) > HIGHEST_BALANCE - amount) {
                return LIMIT;
            }
            accounts.add(at, amount);
            receipts += amount;
            enter(RECEIPT, client, 0, amount);
            return accounts.balanceAt(at);
        }

        int makePayment(int client, int amount) {
            int at = accounts.find(client);
            if (at < 0) {
                return NO_SUCH;
            }
            if (!isAmount(amount)) {
                return BAD_VALUE;
            }
            if (freeAt(at) < amount) {
                return NOT_POSSIBLE;
            }
            accounts.add(at, -amount);
            payments += amount;
            enter(PAYMENT, client, 0, amount);
            return accounts.balanceAt(at);
        }

        int makeTransfer(int from, int to, int amount) {
            int giver = accounts.find(from);
            int taker = accounts.find(to);
            if (giver < 0 || taker < 0) {
                return NO_SUCH;
            }
            if (giver == taker || !isAmount(amount)) {
                return BAD_VALUE;
            }
            if (freeAt(giver) < amount) {
                return NOT_POSSIBLE;
            }
            if (accounts.balanceAt(taker) > HIGHEST_BALANCE - amount) {
                return LIMIT;
            }
            accounts.add(giver, -amount);
            accounts.add(taker, amount);
            enter(TRANSFER, from, to, amount);
            return accounts.balanceAt(giver);
        }

        int makeHold(int client, int amount, int days) {
            int at = accounts.find(client);
            if (at < 0) {
                return NO_SUCH;
            }
            if (!isAmount(amount) || days < 1 || days > MOST_DAYS_OF_HOLD) {
                return BAD_VALUE;
            }
            if (freeAt(at) < amount) {
                return NOT_POSSIBLE;
            }
            if (holds.size >= MOST_ROWS) {
                return LIMIT;
            }
            return holds.append(client, amount, day + days);
        }

        int endHold(int hold) {
            int row = holds.find(hold);
            if (row < 0) {
                return NO_SUCH;
            }
            int at = accounts.find(holds.get(row, Rows.CLIENT));
            holds.remove(row);
            return freeAt(at);
        }

        int writeBill(int client, int amount) {
            if (accounts.find(client) < 0) {
                return NO_SUCH;
            }
            if (!isAmount(amount)) {
                return BAD_VALUE;
            }
            if (bills.size >= MOST_ROWS) {
                return LIMIT;
            }
            return bills.append(client, amount, 0);
        }

        int settleBill(int bill) {
            int row = bills.find(bill);
            if (row < 0) {
                return NO_SUCH;
            }
            int client = bills.get(row, Rows.CLIENT);
            int at = accounts.find(client);
            int left = bills.get(row, Rows.AMOUNT);
            int taken = Math.min(left, freeAt(at));
            if (taken == 0) {
                return NOT_POSSIBLE;
            }
            accounts.add(at, -taken);
            office += taken;
            if (taken == left) {
                bills.remove(row);
            } else {
                bills.set(row, Rows.AMOUNT, left - taken);
                bills.set(row, Rows.EXTRA, bills.get(row, Rows.EXTRA) + taken);
            }
            enter(SETTLEMENT, client, 0, taken);
            return taken;
        }

        /** Goes from credit day to credit day: between two of them no balance changes. */
        long letPass(int days) {
            if (days < 1 || days > MOST_DAYS_AT_ONCE) {
                return BAD_VALUE;
            }
            int end = day + days;
            if (end > LAST_DAY) {
                return LIMIT;
            }
            long before = credited;
            for (int credit = nextCreditDay(day); credit <= end; credit += DAYS_PER_CREDIT) {
                growUntil(credit);
                creditAll();
            }
            growUntil(end);
            endHoldsThatAreOver();
            return credited - before;
        }

        int reverseEntry(int entry) {
            if (!trail.keeps(entry)) {
                return NO_SUCH;
            }
            int kind = trail.get(entry, Trail.KIND);
            if (kind > TRANSFER || trail.get(entry, Trail.REVERSED) != 0) {
                return NOT_POSSIBLE;
            }
            int client = trail.get(entry, Trail.CLIENT);
            int second = trail.get(entry, Trail.SECOND);
            int at = accounts.find(client);
            int secondAt = accounts.find(second);
            if (at < 0 || kind == TRANSFER && secondAt < 0) {
                return NOT_POSSIBLE;
            }
            // A receipt came from outside and a payment went there, so one side may be no account.
            int giver = kind == RECEIPT ? at : secondAt;
            int taker = kind == RECEIPT ? -1 : at;
            int amount = trail.get(entry, Trail.AMOUNT);
            if (giver >= 0 && freeAt(giver) < amount) {
                return NOT_POSSIBLE;
            }
            if (taker >= 0 && accounts.balanceAt(taker) > HIGHEST_BALANCE - amount) {
                return LIMIT;
            }
            accounts.add(giver, -amount);
            accounts.add(taker, amount);
            if (kind == RECEIPT) {
                receipts -= amount;
            } else if (kind == PAYMENT) {
                payments -= amount;
            }
            trail.markReversed(entry);
            enter(REVERSAL, client, second, amount);
            return trail.made;
        }

        int freeAt(int at) {
            return accounts.balanceAt(at) - holds.sumOf(accounts.numberAt(at), Rows.AMOUNT);
        }

        int aboutClient(int at, int what) {
            int client = accounts.numberAt(at);
            switch (what) {
                case 0:
                    return accounts.balanceAt(at);
                case 1:
                    return holds.sumOf(client, Rows.AMOUNT);
                case 2:
                    return freeAt(at);
                case 3:
                    return (int) Math.min(accounts.countAt(at) / COUNT_PER_CENT, (long) HIGHEST_BALANCE);
                case 4:
                    return bills.sumOf(client, Rows.AMOUNT);
                case 5:
                    return accounts.movedAt(at);
                case 6:
                    return holds.countOf(client);
                case 7:
                    return bills.countOf(client);
                default:
                    return BAD_VALUE;
            }
        }

        int firstDayWithFree(int at, int amount) {
            int client = accounts.numberAt(at);
            int balance = accounts.balanceAt(at);
            long count = accounts.countAt(at);
            for (int ahead = 0; ahead <= MOST_DAYS_AT_ONCE; ahead++) {
                int then = day + ahead;
                if (ahead > 0) {
                    count += growthPerDay(balance);
                    if (then % DAYS_PER_CREDIT == 0) {
                        int interest = interestToCredit(balance, count);
                        balance += interest;
                        count -= COUNT_PER_CENT * interest;
                    }
                }
                if (balance - heldOn(client, then) >= amount) {
                    return then;
                }
            }
            return NONE;
        }

        int interestAhead(int at, int days) {
            int balance = accounts.balanceAt(at);
            long count = accounts.countAt(at);
            int sum = 0;
            int from = day;
            for (int credit = nextCreditDay(day); credit <= day + days; credit += DAYS_PER_CREDIT) {
                count += growthPerDay(balance) * (credit - from);
                int interest = interestToCredit(balance, count);
                balance += interest;
                count -= COUNT_PER_CENT * interest;
                sum += interest;
                from = credit;
            }
            return sum;
        }

        private long growthPerDay(int balance) {
            long below = Math.min(balance, limit);
            return low * below + high * (balance - below);
        }

        /** The interest of a count on a credit day, or 0 if none is credited. */
        private int interestToCredit(int balance, long count) {
            long interest = Math.min(count / COUNT_PER_CENT, (long) (HIGHEST_BALANCE - balance));
            return interest >= threshold ? (int) interest : 0;
        }

        private int heldOn(int client, int then) {
            int sum = 0;
            for (int row = 0; row < holds.size; row++) {
                if (holds.get(row, Rows.CLIENT) == client && holds.get(row, Rows.EXTRA) >= then) {
                    sum += holds.get(row, Rows.AMOUNT);
                }
            }
            return sum;
        }

        private void growUntil(int then) {
            for (int at = 0; at < accounts.size; at++) {
                accounts.addCount(at, growthPerDay(accounts.balanceAt(at)) * (then - day));
            }
            day = then;
        }

        private void creditAll() {
            for (int at = 0; at < accounts.size; at++) {
                int interest = interestToCredit(accounts.balanceAt(at), accounts.countAt(at));
                if (interest > 0) {
                    accounts.add(at, interest);
                    accounts.addCount(at, -COUNT_PER_CENT * interest);
                    credited += interest;
                    enter(INTEREST, accounts.numberAt(at), 0, interest);
                }
            }
        }

        private void endHoldsThatAreOver() {
            for (int row = holds.size - 1; row >= 0; row--) {
                if (holds.get(row, Rows.EXTRA) < day) {
                    holds.remove(row);
                }
            }
        }

        private void enter(int kind, int client, int second, int amount) {
            trail.append(day, kind, client, second, amount);
            accounts.move(accounts.find(client), day);
            accounts.move(accounts.find(second), day);
        }
    }

    /** The clients by ascending numbers. A place that does not exist has zeros and takes nothing. */
    private static final class Accounts {
        int size = 0;
        private final int[] number = new int[MOST_CLIENTS];
        private final int[] balance = new int[MOST_CLIENTS];
        private final int[] moved = new int[MOST_CLIENTS];
        private final long[] count = new long[MOST_CLIENTS];

        void copyFrom(Accounts other) {
            size = other.size;
            System.arraycopy(other.number, 0, number, 0, MOST_CLIENTS);
            System.arraycopy(other.balance, 0, balance, 0, MOST_CLIENTS);
            System.arraycopy(other.moved, 0, moved, 0, MOST_CLIENTS);
            System.arraycopy(other.count, 0, count, 0, MOST_CLIENTS);
        }

        int find(int client) {
            for (int at = 0; at < size && at < MOST_CLIENTS; at++) {
                if (number[at] == client) {
                    return at;
                }
            }
            return -1;
        }

        void insert(int client, int day) {
            if (size >= MOST_CLIENTS) {
                return;
            }
            int at = size;
            size++;
            for (; at > 0 && numberAt(at - 1) > client; at--) {
                copyRow(at - 1, at);
            }
            if (isPlace(at)) {
                number[at] = client;
                balance[at] = 0;
                moved[at] = day;
                count[at] = 0;
            }
        }

        void remove(int gone) {
            if (!isPlace(gone)) {
                return;
            }
            for (int at = gone; at + 1 < size; at++) {
                copyRow(at + 1, at);
            }
            size--;
        }

        int numberAt(int at) {
            return isPlace(at) ? number[at] : 0;
        }

        int balanceAt(int at) {
            return isPlace(at) ? balance[at] : 0;
        }

        int movedAt(int at) {
            return isPlace(at) ? moved[at] : 0;
        }

        long countAt(int at) {
            return isPlace(at) ? count[at] : 0;
        }

        void add(int at, int amount) {
            if (isPlace(at)) {
                balance[at] += amount;
            }
        }

        void addCount(int at, long growth) {
            if (isPlace(at)) {
                count[at] += growth;
            }
        }

        void move(int at, int day) {
            if (isPlace(at)) {
                moved[at] = day;
            }
        }

        long sumOfBalances() {
            long sum = 0;
            for (int at = 0; at < size; at++) {
                sum += balanceAt(at);
            }
            return sum;
        }

        private boolean isPlace(int at) {
            return at >= 0 && at < size && at < MOST_CLIENTS;
        }

        private void copyRow(int from, int to) {
            if (isPlace(from) && isPlace(to)) {
                number[to] = number[from];
                balance[to] = balance[from];
                moved[to] = moved[from];
                count[to] = count[from];
            }
        }
    }

    /** The holds, or the open bills: rows by ascending numbers, of which none is used again. */
    private static final class Rows {
        static final int NUMBER = 0;
        static final int CLIENT = 1;
        /** The amount of a hold, or what is still to be paid of a bill. */
        static final int AMOUNT = 2;
        /** The last day of a hold, or what is paid of a bill. */
        static final int EXTRA = 3;
        static final int COLUMNS = 4;

        int size = 0;
        private int latestNumber = 0;
        private final int[] cells = new int[MOST_ROWS * COLUMNS];

        void copyFrom(Rows other) {
            size = other.size;
            latestNumber = other.latestNumber;
            System.arraycopy(other.cells, 0, cells, 0, MOST_ROWS * COLUMNS);
        }

        int find(int number) {
            for (int row = 0; row < size; row++) {
                if (get(row, NUMBER) == number) {
                    return row;
                }
            }
            return -1;
        }

        int append(int client, int amount, int extra) {
            if (size >= MOST_ROWS) {
                return LIMIT;
            }
            int row = size;
            size++;
            latestNumber++;
            set(row, NUMBER, latestNumber);
            set(row, CLIENT, client);
            set(row, AMOUNT, amount);
            set(row, EXTRA, extra);
            return latestNumber;
        }

        void remove(int gone) {
            if (gone < 0 || gone >= size) {
                return;
            }
            for (int row = gone; row + 1 < size; row++) {
                for (int column = 0; column < COLUMNS; column++) {
                    set(row, column, get(row + 1, column));
                }
            }
            size--;
        }

        int get(int row, int column) {
            if (row < 0 || row >= size || row >= MOST_ROWS || column < 0 || column >= COLUMNS) {
                return 0;
            }
            return cells[row * COLUMNS + column];
        }

        void set(int row, int column, int value) {
            if (row < 0 || row >= size || row >= MOST_ROWS || column < 0 || column >= COLUMNS) {
                return;
            }
            cells[row * COLUMNS + column] = value;
        }

        int countOf(int client) {
            int found = 0;
            for (int row = 0; row < size; row++) {
                if (get(row, CLIENT) == client) {
                    found++;
                }
            }
            return found;
        }

        int sumOf(int client, int column) {
            int sum = 0;
            for (int row = 0; row < size; row++) {
                if (get(row, CLIENT) == client) {
                    sum += get(row, column);
                }
            }
            return sum;
        }

        long sumOfAll(int column) {
            long sum = 0;
            for (int row = 0; row < size; row++) {
                sum += get(row, column);
            }
            return sum;
        }
    }

    /** The audit trail: the latest entries lie in a ring, the columns in the order of entry's numbers. */
    private static final class Trail {
        static final int DAY = 0;
        static final int KIND = 1;
        static final int CLIENT = 2;
        static final int SECOND = 3;
        static final int AMOUNT = 4;
        static final int CHECK = 5;
        static final int REVERSED = 6;
        static final int COLUMNS = 7;

        int made = 0;
        private int latestCheck = 7;
        private final int[] cells = new int[KEPT_ENTRIES * COLUMNS];

        void copyFrom(Trail other) {
            made = other.made;
            latestCheck = other.latestCheck;
            System.arraycopy(other.cells, 0, cells, 0, KEPT_ENTRIES * COLUMNS);
        }

        boolean keeps(int entry) {
            return entry >= 1 && entry <= made && entry > made - KEPT_ENTRIES;
        }

        int get(int entry, int what) {
            int cell = cellOf(entry, what);
            return keeps(entry) && cell >= 0 && cell < cells.length ? cells[cell] : 0;
        }

        void markReversed(int entry) {
            if (keeps(entry)) {
                set(entry, REVERSED, 1);
            }
        }

        void append(int day, int kind, int client, int second, int amount) {
            long check = (latestCheck * 1009L + day * 31L + kind * 17L + client * 101L + second * 103L
                    + amount) % 1000003L;
            latestCheck = (int) check;
            made++;
            set(made, DAY, day);
            set(made, KIND, kind);
            set(made, CLIENT, client);
            set(made, SECOND, second);
            set(made, AMOUNT, amount);
            set(made, CHECK, latestCheck);
            set(made, REVERSED, 0);
        }

        private void set(int entry, int what, int value) {
            int cell = cellOf(entry, what);
            if (cell >= 0 && cell < cells.length) {
                cells[cell] = value;
            }
        }

        private static int cellOf(int entry, int what) {
            return entry % KEPT_ENTRIES * COLUMNS + what;
        }
    }

    /** The saved states in a ring with one slot more, in which a call's state from before is prepared. */
    private static final class History {
        int saved = 0;
        private int next = 0;
        private final State[] slots = new State[MOST_SAVED + 1];

        History() {
            for (int i = 0; i < slots.length; i++) {
                slots[i] = new State();
            }
        }

        void prepare(State state) {
            State slot = slotAt(next);
            if (slot != null) {
                slot.copyFrom(state);
            }
        }

        /** Makes the prepared state a saved one; the slot of the oldest one is the next to prepare. */
        void keep() {
            next = next < MOST_SAVED ? next + 1 : 0;
            saved = Math.min(saved + 1, MOST_SAVED);
        }

        int restoreLatest(State state) {
            next = next > 0 ? next - 1 : MOST_SAVED;
            saved--;
            State slot = slotAt(next);
            if (slot != null) {
                state.copyFrom(slot);
            }
            return saved;
        }

        private State slotAt(int at) {
            return at >= 0 && at < slots.length ? slots[at] : null;
        }
    }

    /** The text: its first syntax error, and its orders one after the other. */
    private static final class OrderText {
        private static final String ORDERS = "rptbsd";

        int length = 0;
        private final char[] characters = new char[MOST_CHARACTERS];
        private int position = 0;
        // the order that was read last: its letter and its numbers
        char letter = 0;
        int first = 0;
        int second = 0;
        int third = 0;

        int append(char character) {
            if (length >= 0 && length < MOST_CHARACTERS) {
                characters[length] = character;
                length++;
            }
            return length;
        }

        int empty() {
            int previous = length;
            length = 0;
            return previous;
        }

        /** Every text that comes through the loop can be completed, so its end alone is looked at then. */
        int firstError() {
            char order = 0;
            int part = 0;
            int digits = 0;
            for (int i = 0; i < length; i++) {
                char next = at(i);
                if (order == 0) {
                    if (ORDERS.indexOf(next) < 0) {
                        return i;
                    }
                    order = next;
                    part = 0;
                    digits = 0;
                } else if (isDigit(next)) {
                    if (digits == MOST_DIGITS) {
                        return i;
                    }
                    digits++;
                } else if (digits == 0 || next != signAfter(order, part)) {
                    return i;
                } else if (next == ';') {
                    order = 0;
                } else {
                    part++;
                    digits = 0;
                }
            }
            boolean whole = order != 0 && digits > 0 && signAfter(order, part) == ';';
            return whole ? NONE : length;
        }

        void startReading() {
            position = 0;
        }

        /** Reads the next order of a text without error; false if there is none. */
        boolean readOrder() {
            if (position >= length) {
                return false;
            }
            letter = at(position);
            first = readNumber();
            second = signAfter(letter, 0) == ';' ? 0 : readNumber();
            third = signAfter(letter, 1) == ';' ? 0 : readNumber();
            // Over the ';' to the next letter, or over the end of the text.
            position++;
            return true;
        }

        /** Reads the number that follows the sign at the position, and stops behind its last digit. */
        private int readNumber() {
            int number = 0;
            position++;
            for (int i = 0; i < MOST_DIGITS && isDigit(at(position)); i++) {
                number = number * 10 + (at(position) - '0');
                position++;
            }
            return number;
        }

        private char at(int i) {
            return i >= 0 && i < length && i < MOST_CHARACTERS ? characters[i] : 0;
        }

        private static boolean isDigit(char character) {
            return character >= '0' && character <= '9';
        }

        /** The sign behind a number of an order: the one before its next number, or ';' behind the last. */
        private static char signAfter(char order, int part) {
            if (order == 't') {
                return part == 0 ? '>' : part == 1 ? ':' : ';';
            }
            if (order == 's' || order == 'd') {
                return ';';
            }
            return part == 0 ? ':' : ';';
        }
    }

    /** The clients in one of the orders, sorted anew by each call that asks for it. */
    private static final class Ranking {
        private int size = 0;
        private final int[] clients = new int[MOST_CLIENTS];
        private final int[] keys = new int[MOST_CLIENTS];

        /** Clients come by ascending numbers and pass only greater keys, so equal ones stay so. */
        void sort(State state, int order) {
            size = Math.min(state.accounts.size, MOST_CLIENTS);
            for (int at = 0; at < size; at++) {
                int key = keyOf(state, order, at);
                int rank = at;
                for (; rank > 0 && keys[rank - 1] > key; rank--) {
                    keys[rank] = keys[rank - 1];
                    clients[rank] = clients[rank - 1];
                }
                keys[rank] = key;
                clients[rank] = state.accounts.numberAt(at);
            }
        }

        int clientAt(int rank) {
            return rank >= 0 && rank < size && rank < MOST_CLIENTS ? clients[rank] : NO_SUCH;
        }

        private static int keyOf(State state, int order, int at) {
            switch (order) {
                case 1:
                    return -state.accounts.balanceAt(at);
                case 2:
                    return state.freeAt(at);
                case 3:
                    return state.accounts.movedAt(at);
                default:
                    return 0;
            }
        }
    }
}
