import java.util.Arrays;

/** A house of standing payments: its calendar, accounts, orders, texts and saved states, as DOC.md promises them. */
public final class StandingPayments {
    public static final int NO_SUCH = -1, BAD_VALUE = -2, BAD_TEXT = -3, TOO_MANY = -4, NOT_POSSIBLE = -5, NONE = -6;
    public static final int TRIES = 0, FEE = 1, RATE = 2, WEEKDAY = 3;

    private static final int NO_ERROR = 0;
    private static final int LAST_DAY = 1094;
    private static final int LAST_MONTH = 35;
    private static final int NEVER = LAST_DAY + 1;
    private static final int MOST_DAYS = 400;
    private static final int MOST_HOLIDAYS = 20;
    private static final int MOST_ACCOUNTS = 8;
    private static final int MOST_ORDERS = 16;
    private static final int MOST_CENTS = 1000000;
    private static final int MOST_PAID_IN = 100000000;
    private static final int TOP_PRIORITY = 9;
    private static final int OUTSIDE = 8;
    private static final int MOST_CHANGES = 6;
    private static final int HISTORY_ROWS = MOST_CHANGES + 1;
    private static final int SLOTS = 2;

    private static final int DAILY = 0;
    private static final int WEEKLY = 1;
    private static final int MONTHLY = 2;

    private static final int NOT_SHIFTED = 0;
    private static final int TO_THE_ONE_BEFORE = 2;
    private static final int WITHIN_THE_MONTH = 3;
    private static final int SKIPPED = 4;

    private static final int GOES_ON = 0;
    private static final int STOPPED = 1;
    private static final int OVER = 2;

    /** Sets of accounts, a bit for each, whose failed tries end a forecast. */
    private static final int NOBODY = 0;
    private static final int ANYBODY = -1;

    private static final int[] LEAST_SETTINGS = {1, 0, 0, 0};
    private static final int[] MOST_SETTINGS = {9, 10000, 1000, 6};

    private final House house = new House();
    private final House trial = new House();
    /** A ring. The row behind the latest change takes the state before a call that may turn out to be none. */
    private final House[] history = new House[HISTORY_ROWS];
    private int oldestChange;
    private int changes;
    private final House[] slots = new House[SLOTS];
    private final boolean[] isSaved = new boolean[SLOTS];
    private final Pad pad = new Pad();

    public StandingPayments() {
        for (int i = 0; i < HISTORY_ROWS; i++) history[i] = new House();
        for (int i = 0; i < SLOTS; i++) slots[i] = new House();
    }

    // ---- calendar, accounts

    public int set(int setting, int value) {
        remember();
        return recorded(house.replaceSetting(setting, value));
    }

    public int holiday(int day, int is) {
        remember();
        return recorded(house.calendar.mark(day, is));
    }

    public int account(int overdraft, int keeps) {
        remember();
        return recorded(house.addAccount(overdraft, keeps));
    }

    public int feed(int account, int feeder) {
        remember();
        return recorded(house.nameFeeder(account, feeder));
    }

    public int deposit(int account, int cents) {
        remember();
        return recorded(house.payIn(account, cents));
    }

    // ---- orders

    public int order(int parties, int amount, int dates, int first, int how, int many) {
        remember();
        return recorded(house.addOrder(parties, amount, dates, first, how, many));
    }

    public int change(int order, int amount, int priority) {
        remember();
        return recorded(house.alterOrder(order, amount, priority));
    }

    public int stop(int order) {
        remember();
        return recorded(house.stopOrder(order));
    }

    public int goOn(int order) {
        remember();
        return recorded(house.resumeOrder(order));
    }

    public int giveUp(int payment) {
        remember();
        return recorded(house.dropPayment(payment));
    }

    public int days(int days) {
        int error = house.errorOfDays(days);
        if (error != NO_ERROR) return error;
        remember();
        house.passDays(days, NOBODY);
        return recorded(house.today);
    }

    // ---- what there is

    public int ofDay(int day, int what) {
        if (!isBetween(day, 0, LAST_DAY)) return BAD_VALUE;
        return house.calendar.numberOf(day, what);
    }

    public long money(int account, int what) {
        if (!house.hasAccount(account)) return NO_SUCH;
        return house.accounts[account].sumOf(what);
    }

    public long owedBits(int account) {
        if (!house.hasAccount(account)) return NO_SUCH;
        return bitsOf(house.accounts[account].owed);
    }

    public int ofOrder(int order, int what) {
        if (!house.hasOrder(order)) return NO_SUCH;
        if (what == 15) return house.nextNominalDay(order);
        return house.orders[order].numberOf(what);
    }

    public int ofPayment(int payment, int what) {
        if (!isBetween(payment, 0, house.waiting.size - 1)) return NO_SUCH;
        if (!isBetween(what, 0, Waiting.COLUMNS - 1)) return BAD_VALUE;
        return house.waiting.columns[what][payment];
    }

    public int count(int what) {
        if (what == 9) return pad.length;
        if (what == 10) return changes;
        return house.numberOf(what);
    }

    // ---- what if; nothing changes

    public int dateOf(int order, int k) {
        if (!house.hasOrder(order)) return NO_SUCH;
        if (!isBetween(k, 0, 99)) return BAD_VALUE;
        return house.orders[order].dateBehindNext(k, house.calendar);
    }

    public int shift(int day, int rule) {
        if (!isBetween(day, 0, LAST_DAY) || !isBetween(rule, NOT_SHIFTED, SKIPPED)) return BAD_VALUE;
        return house.calendar.shifted(day, rule);
    }

    public long balanceIn(int account, int days) {
        if (!house.hasAccount(account)) return NO_SUCH;
        if (!isBetween(days, 1, MOST_DAYS)) return BAD_VALUE;
        trial.copyFrom(house);
        trial.passDays(days, NOBODY);
        return trial.accounts[account].balance;
    }

    public int firstFailure(int account) {
        if (account != NONE && !house.hasAccount(account)) return NO_SUCH;
        trial.copyFrom(house);
        return trial.passDays(MOST_DAYS, account == NONE ? ANYBODY : 1 << account);
    }

    public int leastDeposit(int account, int days) {
        if (!house.hasAccount(account)) return NO_SUCH;
        if (!isBetween(days, 1, 100)) return BAD_VALUE;
        // All of them are tried: with more in it, an account can fail where it did not, if it feeds others.
        for (int cents = 0; cents <= 100000; cents += 5000) {
            trial.copyFrom(house);
            trial.accounts[account].balance += cents;
            if (trial.passDays(days, 1 << account) == NONE) return cents;
        }
        return NONE;
    }

    public int ahead(int order, int days, int what) {
        if (!house.hasOrder(order)) return NO_SUCH;
        if (!isBetween(days, 1, MOST_DAYS) || !isBetween(what, 0, 3)) return BAD_VALUE;
        trial.copyFrom(house);
        trial.passDays(days, NOBODY);
        Order now = house.orders[order];
        Order then = trial.orders[order];
        switch (what) {
            case 0: return then.made - now.made;
            case 1: return then.missed - now.missed;
            case 2: return then.skipped - now.skipped;
            default: return then.waiting;
        }
    }

    // ---- texts

    public int put(long characters) {
        return pad.append(characters);
    }

    public int wipe() {
        int length = pad.length;
        pad.length = 0;
        return length;
    }

    public int fault() {
        return pad.isSound() ? NONE : pad.at;
    }

    public int carryOut() {
        if (!pad.isSound()) return BAD_TEXT;
        remember();
        int done = 0;
        pad.at = 0;
        for (int i = 0; i < Pad.MOST_SIGNS && pad.at < pad.length; i++) {
            pad.readAct();
            pad.takes(';');
            if (isError(perform(pad))) break;
            done++;
        }
        pad.length = 0;
        return recorded(done);
    }

    // ---- undo, saving

    public int undo() {
        if (changes == 0) return NOT_POSSIBLE;
        changes--;
        house.copyFrom(history[rowBehindLatest()]);
        return changes;
    }

    public int save(int slot) {
        if (!isBetween(slot, 0, SLOTS - 1)) return BAD_VALUE;
        slots[slot].copyFrom(house);
        isSaved[slot] = true;
        return house.today;
    }

    public int restore(int slot) {
        if (!isBetween(slot, 0, SLOTS - 1)) return BAD_VALUE;
        if (!isSaved[slot]) return NOT_POSSIBLE;
        remember();
        house.copyFrom(slots[slot]);
        return recorded(house.today);
    }

    /** Keeps the state aside, until recorded() knows whether the call was a change. */
    private void remember() {
        history[rowBehindLatest()].copyFrom(house);
    }

    private int recorded(int answer) {
        if (isError(answer)) return answer;
        if (changes < MOST_CHANGES) changes++;
        else oldestChange = (oldestChange + 1) % HISTORY_ROWS;
        return answer;
    }

    private int rowBehindLatest() {
        return (oldestChange + changes) % HISTORY_ROWS;
    }

    /** Carries out the act that was read last; only whether the answer is an error counts. */
    private int perform(Pad act) {
        switch (act.verb) {
            case 'p':
                // Beyond these bounds the parts would run into one another in one number.
                if (act.step > 12 || act.dayOfMonth > 31) return BAD_VALUE;
                return house.addOrder(9 * act.party + act.getter, act.number,
                        10000 * act.kind + 100 * act.step + act.dayOfMonth, house.today, 10 * act.rule + 5, 0);
            case 's':
                return house.stopOrder(act.number);
            case 'g':
                return house.resumeOrder(act.number);
            case 'd':
                return house.payIn(act.party, act.number);
            default:
                int error = house.errorOfDays(act.number);
                if (error == NO_ERROR) house.passDays(act.number, NOBODY);
                return error;
        }
    }

    private static boolean isBetween(int value, int least, int most) {
        return value >= least && value <= most;
    }

    private static boolean isError(int answer) {
        return isBetween(answer, NOT_POSSIBLE, NO_SUCH);
    }

    /** The bits of a double that is not below 0, by arithmetic: LANGUAGE.md has no Double.doubleToLongBits. */
    private static long bitsOf(double value) {
        if (!(value > 0.0)) return 0L;
        double fraction = value;
        long exponent = 1023;
        for (int i = 0; i < 1023 && fraction >= 2.0; i++) {
            fraction = fraction / 2.0;
            exponent++;
        }
        for (int i = 0; i < 1022 && fraction < 1.0; i++) {
            fraction = fraction * 2.0;
            exponent--;
        }
        return (exponent << 52) + (long) ((fraction - 1.0) * 4503599627370496.0);
    }

    /** Three years of 365 days, their weekdays and holidays. Each day that is asked for is from 0 to LAST_DAY. */
    private static final class Calendar {
        private static final int[] MONTH_STARTS = {0, 31, 59, 90, 120, 151, 181, 212, 243, 273, 304, 334, 365};

        final long[] holidayBits = new long[LAST_DAY / 64 + 1];
        int holidays;
        int firstWeekday;

        void copyFrom(Calendar other) {
            System.arraycopy(other.holidayBits, 0, holidayBits, 0, holidayBits.length);
            holidays = other.holidays;
            firstWeekday = other.firstWeekday;
        }

        static int monthOf(int day) {
            int ofYear = day % 365;
            // No month is longer than 31 days, so this is at most one month too early.
            int month = ofYear / 31;
            if (MONTH_STARTS[month + 1] <= ofYear) month++;
            return day / 365 * 12 + month;
        }

        static int firstDayOf(int month) {
            return month / 12 * 365 + MONTH_STARTS[month % 12];
        }

        static int lastDayOf(int month) {
            return month / 12 * 365 + MONTH_STARTS[month % 12 + 1] - 1;
        }

        int weekdayOf(int day) {
            return (day + firstWeekday) % 7;
        }

        boolean isHoliday(int day) {
            return (holidayBits[day >> 6] >>> (day & 63) & 1L) != 0;
        }

        /** Written out, since the longest chain of calls ends here (LANGUAGE.md, rule 11: eight). */
        boolean isBusiness(int day) {
            return (day + firstWeekday) % 7 < 5 && (holidayBits[day >> 6] >>> (day & 63) & 1L) == 0;
        }

        int nextBusiness(int day) {
            for (int at = day; at <= LAST_DAY; at++) if (isBusiness(at)) return at;
            return NONE;
        }

        int lastBusiness(int day) {
            for (int at = day; at >= 0; at--) if (isBusiness(at)) return at;
            return NONE;
        }

        int shifted(int day, int rule) {
            if (rule == NOT_SHIFTED || rule == SKIPPED) return day;
            int target = rule == TO_THE_ONE_BEFORE ? lastBusiness(day) : nextBusiness(day);
            if (rule == WITHIN_THE_MONTH && (target == NONE || monthOf(target) != monthOf(day))) {
                target = lastBusiness(day);
            }
            return target == NONE ? day : target;
        }

        int mark(int day, int is) {
            if (!isBetween(day, 0, LAST_DAY) || !isBetween(is, 0, 1)) return BAD_VALUE;
            if (isHoliday(day) == (is == 1)) return holidays;
            if (is == 1 && holidays >= MOST_HOLIDAYS) return TOO_MANY;
            holidayBits[day >> 6] ^= 1L << (day & 63);
            holidays += is == 1 ? 1 : -1;
            return holidays;
        }

        int numberOf(int day, int what) {
            switch (what) {
                case 0: return weekdayOf(day);
                case 1: return monthOf(day);
                case 2: return day - firstDayOf(monthOf(day)) + 1;
                case 3: return isBusiness(day) ? 1 : 0;
                case 4: return nextBusiness(day);
                case 5: return lastBusiness(day);
                default: return BAD_VALUE;
            }
        }
    }

    /** An account, and what moved on it. */
    private static final class Account {
        int overdraft;
        int keeps;
        int feeder;
        long balance;
        long paidIn;
        long paid;
        long got;
        long swept;
        long gave;
        long fees;
        long interest;
        long waits;
        double owed;

        void open(int itsOverdraft, int itKeeps) {
            overdraft = itsOverdraft;
            keeps = itKeeps;
            feeder = NONE;
            balance = 0;
            paidIn = 0;
            paid = 0;
            got = 0;
            swept = 0;
            gave = 0;
            fees = 0;
            interest = 0;
            waits = 0;
            owed = 0.0;
        }

        void copyFrom(Account other) {
            overdraft = other.overdraft;
            keeps = other.keeps;
            feeder = other.feeder;
            balance = other.balance;
            paidIn = other.paidIn;
            paid = other.paid;
            got = other.got;
            swept = other.swept;
            gave = other.gave;
            fees = other.fees;
            interest = other.interest;
            waits = other.waits;
            owed = other.owed;
        }

        long sumOf(int what) {
            switch (what) {
                case 0: return balance;
                case 1: return paidIn;
                case 2: return paid;
                case 3: return got;
                case 4: return swept;
                case 5: return gave;
                case 6: return fees;
                case 7: return interest;
                case 8: return waits;
                default: return BAD_VALUE;
            }
        }

        void takeInterest() {
            long cents = (long) owed;
            balance -= cents;
            interest += cents;
            owed = owed - cents;
        }
    }

    /** An order. Its occurrences are told by an index, from 0 in the month (or on the day) of the first day on. */
    private static final class Order {
        int payer;
        int getter;
        int amount;
        int kind;
        int step;
        int dayOfMonth;
        int first;
        int rule;
        int priority;
        boolean isEndless;
        int left;
        int state;
        int made;
        int missed;
        int skipped;
        int waiting;
        /** All occurrences from this index on are still to come. */
        int from;
        /** The next one as the calendar was when aim() was called last: its index, nominal day and date. */
        int nextIndex;
        int nextDay;
        int nextDate;

        void begin(int parties, int cents, int dates, int firstDay, int how, int many) {
            payer = parties / 9;
            getter = parties % 9 == OUTSIDE ? NONE : parties % 9;
            amount = cents;
            kind = dates / 10000;
            step = dates / 100 % 100;
            dayOfMonth = dates % 100;
            first = firstDay;
            rule = how / 10;
            priority = how % 10;
            isEndless = many == 0;
            left = many;
            state = GOES_ON;
            made = 0;
            missed = 0;
            skipped = 0;
            waiting = 0;
            from = 0;
        }

        void copyFrom(Order other) {
            payer = other.payer;
            getter = other.getter;
            amount = other.amount;
            kind = other.kind;
            step = other.step;
            dayOfMonth = other.dayOfMonth;
            first = other.first;
            rule = other.rule;
            priority = other.priority;
            isEndless = other.isEndless;
            left = other.left;
            state = other.state;
            made = other.made;
            missed = other.missed;
            skipped = other.skipped;
            waiting = other.waiting;
            from = other.from;
        }

        /** The day of an index, NONE if it would be too late; it can be before the first day for the index 0 alone. */
        int nominalDay(int index, Calendar calendar) {
            if (kind == DAILY || kind == WEEKLY) {
                int day = first + index * step * (kind == DAILY ? 1 : 7);
                return day <= LAST_DAY ? day : NONE;
            }
            int month = Calendar.monthOf(first) + index * step;
            if (month > LAST_MONTH) return NONE;
            int start = Calendar.firstDayOf(month);
            int end = Calendar.lastDayOf(month);
            if (kind == MONTHLY) return Math.min(start + dayOfMonth - 1, end);
            int last = calendar.lastBusiness(end);
            return last >= start ? last : end;
        }

        /** Asked anew whenever the calendar may be another: it decides whether there is one in the first month. */
        void aim(Calendar calendar) {
            nextIndex = from;
            nextDay = nominalDay(from, calendar);
            if (nextDay != NONE && nextDay < first) {
                nextIndex = from + 1;
                nextDay = nominalDay(nextIndex, calendar);
            }
            nextDate = nextDay == NONE ? NEVER : calendar.shifted(nextDay, rule);
        }

        boolean hasPaymentsLeft() {
            return isEndless || left > 0;
        }

        int leaveOutBefore(int today, Calendar calendar) {
            int leftOut = 0;
            aim(calendar);
            for (int i = 0; i <= LAST_DAY && nextDate < today; i++) {
                leftOut++;
                from = nextIndex + 1;
                aim(calendar);
            }
            return leftOut;
        }

        int dateBehindNext(int k, Calendar calendar) {
            if (state == OVER || !isEndless && k >= left) return NONE;
            aim(calendar);
            int day = nominalDay(nextIndex + k, calendar);
            return day == NONE ? NONE : calendar.shifted(day, rule);
        }

        int numberOf(int what) {
            switch (what) {
                case 0: return payer;
                case 1: return getter;
                case 2: return amount;
                case 3: return kind;
                case 4: return step;
                case 5: return dayOfMonth;
                case 6: return first;
                case 7: return rule;
                case 8: return priority;
                case 9: return state == OVER ? 0 : left;
                case 10: return state;
                case 11: return made;
                case 12: return missed;
                case 13: return skipped;
                case 14: return waiting;
                default: return BAD_VALUE;
            }
        }
    }

    /** The payments that wait, in the order in which they became due: columns, numbered as ofPayment() does. */
    private static final class Waiting {
        static final int ORDER = 0;
        static final int AMOUNT = 1;
        static final int NOMINAL_DAY = 2;
        static final int DUE_DAY = 3;
        static final int FAILED = 4;
        static final int COLUMNS = 5;
        /** No order has more occurrences than there are days. */
        private static final int MOST = MOST_ORDERS * (LAST_DAY + 1);
        private static final int FEW = 64;

        final int[][] columns = new int[COLUMNS][FEW];
        int room = FEW;
        int size;

        void copyFrom(Waiting other) {
            if (room < other.size) makeRoom(other.room);
            for (int c = 0; c < COLUMNS; c++) System.arraycopy(other.columns[c], 0, columns[c], 0, other.size);
            size = other.size;
        }

        private void makeRoom(int wanted) {
            if (wanted <= room) return;
            for (int c = 0; c < COLUMNS; c++) columns[c] = Arrays.copyOf(columns[c], wanted);
            room = wanted;
        }

        boolean add(int order, int amount, int nominalDay, int today) {
            if (size >= MOST) return false;
            // Twice as many rather than all at once: hardly a house ever has more than a few.
            if (size >= room) makeRoom(Math.min(2 * room, MOST));
            columns[ORDER][size] = order;
            columns[AMOUNT][size] = amount;
            columns[NOMINAL_DAY][size] = nominalDay;
            columns[DUE_DAY][size] = today;
            columns[FAILED][size] = 0;
            size++;
            return true;
        }

        /** An amount of 0, which no payment has, marks one that waits no more. */
        void dropSettled() {
            int kept = 0;
            for (int i = 0; i < size; i++) {
                if (columns[AMOUNT][i] == 0) continue;
                for (int c = 0; c < COLUMNS; c++) columns[c][kept] = columns[c][i];
                kept++;
            }
            size = kept;
        }
    }

    /** All that is undone and saved: everything but the pad, the slots and the history. */
    private static final class House {
        final Calendar calendar = new Calendar();
        final Account[] accounts = new Account[MOST_ACCOUNTS];
        final Order[] orders = new Order[MOST_ORDERS];
        final Waiting waiting = new Waiting();
        int accountCount;
        int orderCount;
        int today;
        int tries = 3;
        int fee = 250;
        int rate = 120;
        int failedTries;
        /** The accounts with a failed try on the day that passes, a bit for each. */
        int failedPayers;

        House() {
            for (int i = 0; i < MOST_ACCOUNTS; i++) accounts[i] = new Account();
            for (int i = 0; i < MOST_ORDERS; i++) orders[i] = new Order();
        }

        void copyFrom(House other) {
            calendar.copyFrom(other.calendar);
            for (int i = 0; i < other.accountCount; i++) accounts[i].copyFrom(other.accounts[i]);
            for (int i = 0; i < other.orderCount; i++) orders[i].copyFrom(other.orders[i]);
            waiting.copyFrom(other.waiting);
            accountCount = other.accountCount;
            orderCount = other.orderCount;
            today = other.today;
            tries = other.tries;
            fee = other.fee;
            rate = other.rate;
            failedTries = other.failedTries;
        }

        boolean hasAccount(int account) {
            return account >= 0 && account < accountCount;
        }

        boolean hasOrder(int order) {
            return order >= 0 && order < orderCount;
        }

        int settingOf(int setting) {
            switch (setting) {
                case TRIES: return tries;
                case FEE: return fee;
                case RATE: return rate;
                default: return calendar.firstWeekday;
            }
        }

        int replaceSetting(int setting, int value) {
            if (!isBetween(setting, TRIES, WEEKDAY)) return BAD_VALUE;
            if (!isBetween(value, LEAST_SETTINGS[setting], MOST_SETTINGS[setting])) return BAD_VALUE;
            int previous = settingOf(setting);
            switch (setting) {
                case TRIES: tries = value; break;
                case FEE: fee = value; break;
                case RATE: rate = value; break;
                default: calendar.firstWeekday = value; break;
            }
            return previous;
        }

        int addAccount(int overdraft, int keeps) {
            if (!isBetween(overdraft, 0, MOST_CENTS) || !isBetween(keeps, 0, MOST_CENTS)) return BAD_VALUE;
            if (accountCount >= MOST_ACCOUNTS) return TOO_MANY;
            accounts[accountCount].open(overdraft, keeps);
            accountCount++;
            return accountCount - 1;
        }

        int nameFeeder(int account, int feeder) {
            if (!hasAccount(account)) return NO_SUCH;
            if (feeder != NONE && (feeder == account || !hasAccount(feeder))) return NO_SUCH;
            int previous = accounts[account].feeder;
            accounts[account].feeder = feeder;
            return previous;
        }

        int payIn(int account, int cents) {
            if (!hasAccount(account)) return NO_SUCH;
            if (!isBetween(cents, 1, MOST_PAID_IN)) return BAD_VALUE;
            accounts[account].balance += cents;
            accounts[account].paidIn += cents;
            return accounts[account].balance >= 0 ? 1 : 0;
        }

        int addOrder(int parties, int amount, int dates, int first, int how, int many) {
            if (parties < 0 || !hasAccount(parties / 9)) return NO_SUCH;
            int getter = parties % 9;
            if (getter == parties / 9 || getter != OUTSIDE && !hasAccount(getter)) return NO_SUCH;
            if (!isBetween(amount, 1, MOST_CENTS) || !areDates(dates)) return BAD_VALUE;
            if (!isBetween(first, today, LAST_DAY)) return BAD_VALUE;
            if (!isBetween(how, 0, 10 * SKIPPED + TOP_PRIORITY) || !isBetween(many, 0, 99)) return BAD_VALUE;
            if (orderCount >= MOST_ORDERS) return TOO_MANY;
            orders[orderCount].begin(parties, amount, dates, first, how, many);
            orders[orderCount].leaveOutBefore(today, calendar);
            orderCount++;
            return orderCount - 1;
        }

        private static boolean areDates(int dates) {
            return isBetween(dates, 0, 39999) && isBetween(dates / 100 % 100, 1, 12) && isBetween(dates % 100, 1, 31);
        }

        int alterOrder(int order, int amount, int priority) {
            if (!hasOrder(order)) return NO_SUCH;
            if (!isBetween(amount, 1, MOST_CENTS) || !isBetween(priority, 0, TOP_PRIORITY)) return BAD_VALUE;
            if (orders[order].state == OVER) return NOT_POSSIBLE;
            int previous = orders[order].amount;
            orders[order].amount = amount;
            orders[order].priority = priority;
            return previous;
        }

        int stopOrder(int order) {
            if (!hasOrder(order)) return NO_SUCH;
            if (orders[order].state != GOES_ON) return NOT_POSSIBLE;
            orders[order].state = STOPPED;
            return orders[order].waiting;
        }

        int resumeOrder(int order) {
            if (!hasOrder(order)) return NO_SUCH;
            if (orders[order].state != STOPPED) return NOT_POSSIBLE;
            orders[order].state = GOES_ON;
            return orders[order].leaveOutBefore(today, calendar);
        }

        int dropPayment(int payment) {
            if (!isBetween(payment, 0, waiting.size - 1)) return NO_SUCH;
            orders[waiting.columns[Waiting.ORDER][payment]].missed++;
            settle(payment);
            waiting.dropSettled();
            return waiting.size;
        }

        int nextNominalDay(int order) {
            if (orders[order].state == OVER) return NONE;
            orders[order].aim(calendar);
            return orders[order].nextDay;
        }

        int numberOf(int what) {
            switch (what) {
                case 0: return today;
                case 1: return accountCount;
                case 2: return orderCount;
                case 3: return calendar.holidays;
                case 4: return waiting.size;
                case 5:
                case 6:
                case 7: return sumOverOrders(what + 6);
                case 8: return failedTries;
                case 11:
                case 12:
                case 13:
                case 14: return settingOf(what - 11);
                default: return BAD_VALUE;
            }
        }

        /** The sum of one of the numbers that ofOrder() tells. */
        private int sumOverOrders(int what) {
            int sum = 0;
            for (int i = 0; i < orderCount; i++) sum += orders[i].numberOf(what);
            return sum;
        }

        int errorOfDays(int days) {
            if (!isBetween(days, 1, MOST_DAYS)) return BAD_VALUE;
            return today + days > LAST_DAY ? NOT_POSSIBLE : NO_ERROR;
        }

        /** Ends early behind the first day on which a try of one of the accounts failed; tells that day, or NONE. */
        int passDays(int days, int watchedPayers) {
            for (int i = 0; i < orderCount; i++) orders[i].aim(calendar);
            for (int i = 0; i < days && today < LAST_DAY; i++) {
                failedPayers = NOBODY;
                makePaymentsDue();
                sweep();
                if (calendar.isBusiness(today)) payWaiting();
                chargeInterest();
                today++;
                if ((failedPayers & watchedPayers) != 0) return today - 1;
            }
            return NONE;
        }

        private void makePaymentsDue() {
            for (int i = 0; i < orderCount; i++) {
                Order order = orders[i];
                if (order.state != GOES_ON) continue;
                for (int n = 0; n <= LAST_DAY && order.hasPaymentsLeft() && order.nextDate <= today; n++) {
                    takeNextOccurrence(i);
                    order.from = order.nextIndex + 1;
                    order.aim(calendar);
                }
                if (!order.hasPaymentsLeft() || order.nextDate == NEVER) order.state = OVER;
            }
        }

        private void takeNextOccurrence(int number) {
            Order order = orders[number];
            if (!order.isEndless) order.left--;
            if (order.rule == SKIPPED && !calendar.isBusiness(order.nextDay)) {
                order.skipped++;
                return;
            }
            if (!waiting.add(number, order.amount, order.nextDay, today)) return;
            order.waiting++;
            accounts[order.payer].waits += order.amount;
        }

        private void sweep() {
            for (int i = 0; i < accountCount; i++) {
                Account account = accounts[i];
                if (!hasAccount(account.feeder)) continue;
                Account feeder = accounts[account.feeder];
                long lacking = account.waits - account.balance - account.overdraft;
                long moved = Math.min(lacking, feeder.balance - feeder.keeps);
                if (moved <= 0) continue;
                feeder.balance -= moved;
                feeder.gave += moved;
                account.balance += moved;
                account.swept += moved;
            }
        }

        private void payWaiting() {
            int priorities = 0;
            for (int i = 0; i < waiting.size; i++) {
                priorities |= 1 << orders[waiting.columns[Waiting.ORDER][i]].priority;
            }
            for (int priority = TOP_PRIORITY; priority >= 0; priority--) {
                if ((priorities >> priority & 1) != 0) payWaitingOf(priority);
            }
            waiting.dropSettled();
        }

        /** They stand in the order in which they became due, so those that wait for the longest time come first. */
        private void payWaitingOf(int priority) {
            for (int i = 0; i < waiting.size; i++) {
                if (orders[waiting.columns[Waiting.ORDER][i]].priority == priority) tryPayment(i);
            }
        }

        private void tryPayment(int payment) {
            Order order = orders[waiting.columns[Waiting.ORDER][payment]];
            Account payer = accounts[order.payer];
            int amount = waiting.columns[Waiting.AMOUNT][payment];
            if (payer.balance + payer.overdraft < amount) {
                failTry(payment);
                return;
            }
            payer.balance -= amount;
            payer.paid += amount;
            if (hasAccount(order.getter)) {
                accounts[order.getter].balance += amount;
                accounts[order.getter].got += amount;
            }
            order.made++;
            settle(payment);
        }

        private void failTry(int payment) {
            Order order = orders[waiting.columns[Waiting.ORDER][payment]];
            accounts[order.payer].balance -= fee;
            accounts[order.payer].fees += fee;
            failedTries++;
            failedPayers |= 1 << order.payer;
            waiting.columns[Waiting.FAILED][payment]++;
            if (waiting.columns[Waiting.FAILED][payment] < tries) return;
            order.missed++;
            settle(payment);
        }

        private void settle(int payment) {
            Order order = orders[waiting.columns[Waiting.ORDER][payment]];
            order.waiting--;
            accounts[order.payer].waits -= waiting.columns[Waiting.AMOUNT][payment];
            waiting.columns[Waiting.AMOUNT][payment] = 0;
        }

        private void chargeInterest() {
            float yearly = rate / 1000.0f;
            boolean isMonthOver = Calendar.lastDayOf(Calendar.monthOf(today)) == today;
            for (int i = 0; i < accountCount; i++) {
                Account account = accounts[i];
                if (account.balance < 0) account.owed += -account.balance * (double) yearly / 365.0;
                if (isMonthOver) account.takeInterest();
            }
        }
    }

    /** The text for the house, and a reader that stands in it. */
    private static final class Pad {
        static final int MOST_SIGNS = 80;

        final char[] signs = new char[MOST_SIGNS];
        int length;
        int at;
        /** The act that was read last; of its parts only those that its verb has. */
        char verb;
        int party;
        int getter;
        int number;
        int kind;
        int step;
        int dayOfMonth;
        int rule;

        int append(long characters) {
            int added = 0;
            for (long rest = characters; added < 8 && rest != 0; added++) {
                int sign = (int) (rest & 255);
                // A 0 is none of these either: what stands above it is not 0.
                if (!isBetween(sign, 33, 126)) return BAD_VALUE;
                rest = rest >>> 8;
            }
            if (added == 0) return BAD_VALUE;
            if (length + added > MOST_SIGNS) return TOO_MANY;
            for (int i = 0; i < added; i++) {
                signs[length + i] = (char) (characters >>> 8 * (added - 1 - i) & 255);
            }
            length += added;
            return length;
        }

        /** Reads the whole text. If it has a fault, the reader stands there then. */
        boolean isSound() {
            at = 0;
            for (int i = 0; i < MOST_SIGNS; i++) {
                if (!readAct()) return false;
                if (at >= length) return true;
                if (!takes(';')) return false;
            }
            return false;
        }

        boolean readAct() {
            verb = sign();
            switch (verb) {
                case 'p':
                    at++;
                    return readParties() && readAmountAndDates();
                case 's':
                case 'g':
                case 'n':
                    at++;
                    number = readNumber();
                    return number >= 0;
                case 'd':
                    at++;
                    party = readDigit();
                    if (party < 0 || !takes('+')) return false;
                    number = readNumber();
                    return number >= 0;
                default:
                    return false;
            }
        }

        private boolean readParties() {
            party = readDigit();
            if (party < 0 || !takes('>')) return false;
            getter = takes('-') ? OUTSIDE : readDigit();
            return getter >= 0 && takes('*');
        }

        private boolean readAmountAndDates() {
            number = readNumber();
            if (number < 0) return false;
            kind = readOneOf("dwme");
            if (kind < 0) return false;
            step = readNumber();
            if (step < 0) return false;
            dayOfMonth = takes('/') ? readNumber() : 1;
            if (dayOfMonth < 0) return false;
            rule = readOneOf(".fbx!");
            return rule >= 0;
        }

        /** The sign where the reader stands, 0 behind the text. */
        private char sign() {
            return at >= 0 && at < length && at < MOST_SIGNS ? signs[at] : 0;
        }

        boolean takes(char wanted) {
            if (sign() != wanted) return false;
            at++;
            return true;
        }

        private int readOneOf(String wanted) {
            int index = wanted.indexOf(sign());
            if (index >= 0) at++;
            return index;
        }

        private int readDigit() {
            return readOneOf("01234567");
        }

        /** A number from 0 to 99999, or -1 where none stands; a digit that would make it longer is not taken. */
        private int readNumber() {
            if (takes('0')) return 0;
            int value = 0;
            int digits = 0;
            for (; digits < 5 && sign() >= '0' && sign() <= '9'; digits++) {
                value = 10 * value + (sign() - '0');
                at++;
            }
            return digits == 0 ? -1 : value;
        }
    }
}
