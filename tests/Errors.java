/** What the document says of all errors: they change nothing, and the first one that applies is answered. */
public final class Errors {
    private static final int LAST = 62;

    public static void main(String[] args) {
        for (int which = 0; which <= LAST; which++) changesNothing(which);
        questionsChangeNothing();
        firstOneOfThoseThatApply();
        noneOnlyWithoutError();
        oddArguments();
        Due.end();
    }

    /**
     * A house that has as much of everything as there may be: accounts, orders, holidays, signs on the pad and changes.
     * Order 0 goes on, 1 is stopped, 2 is over; a payment waits; the slot 0 is saved, 1 is not. Today is the Monday 7.
     */
    private static StandingPayments full() {
        StandingPayments x = new StandingPayments();
        for (int i = 0; i < 8; i++) x.account(100 * i, 10 * i);
        x.feed(3, 2);
        x.deposit(0, 1000);
        x.order(8, 50, 101, 6, 5, 0);
        x.order(17, 50, 20101, 0, 15, 3);
        x.order(26, 50, 101, 0, 25, 1);
        for (int i = 3; i < 16; i++) x.order(9 * 3 + 8, i, 101, 1000, 5, 0);
        for (int i = 0; i < 20; i++) x.holiday(700 + i, 1);
        Due.write(x, "n1;".repeat(26) + "n;");
        x.days(5);
        x.save(0);
        x.days(2);
        x.stop(1);
        for (int i = 0; i < 4; i++) x.deposit(4, 1);
        return x;
    }

    /** Each error of each method, with what is due. */
    private static int error(StandingPayments x, int which) {
        switch (which) {
            case 0: return x.set(4, 1) + 2;
            case 1: return x.set(-1, 1) + 2;
            case 2: return x.set(0, 10) + 2;
            case 3: return x.set(1, -1) + 2;
            case 4: return x.set(2, 1001) + 2;
            case 5: return x.set(3, 7) + 2;
            case 6: return x.holiday(1095, 1) + 2;
            case 7: return x.holiday(-1, 0) + 2;
            case 8: return x.holiday(700, 2) + 2;
            case 9: return x.holiday(720, 1) + 4;
            case 10: return x.account(-1, 0) + 2;
            case 11: return x.account(0, 1000001) + 2;
            case 12: return x.account(0, 0) + 4;
            case 13: return x.feed(8, 0) + 1;
            case 14: return x.feed(3, 3) + 1;
            case 15: return x.feed(3, 8) + 1;
            case 16: return x.feed(3, -1) + 1;
            case 17: return x.deposit(8, 1) + 1;
            case 18: return x.deposit(0, 0) + 2;
            case 19: return x.deposit(0, 100000001) + 2;
            case 20: return x.order(0, 1, 101, 7, 0, 0) + 1;
            case 21: return x.order(8, 0, 101, 7, 0, 0) + 2;
            case 22: return x.order(8, 1, 100, 7, 0, 0) + 2;
            case 23: return x.order(8, 1, 101, 6, 0, 0) + 2;
            case 24: return x.order(8, 1, 101, 7, 50, 0) + 2;
            case 25: return x.order(8, 1, 101, 7, 0, 100) + 2;
            case 26: return x.order(8, 1, 101, 7, 0, 0) + 4;
            case 27: return x.change(16, 1, 0) + 1;
            case 28: return x.change(0, 1000001, 0) + 2;
            case 29: return x.change(0, 1, 10) + 2;
            case 30: return x.change(2, 1, 0) + 5;
            case 31: return x.stop(16) + 1;
            case 32: return x.stop(1) + 5;
            case 33: return x.stop(2) + 5;
            case 34: return x.goOn(16) + 1;
            case 35: return x.goOn(0) + 5;
            case 36: return x.goOn(2) + 5;
            case 37: return x.giveUp(x.count(4)) + 1;
            case 38: return x.giveUp(-1) + 1;
            case 39: return x.days(0) + 2;
            case 40: return x.days(401) + 2;
            case 41: return x.put(32) + 2;
            case 42: return x.put('a') + 4;
            case 43: return x.carryOut() + 3;
            case 44: return x.save(2) + 2;
            case 45: return x.save(-1) + 2;
            case 46: return x.restore(2) + 2;
            case 47: return x.restore(1) + 5;
            default: return questionWithError(x, which);
        }
    }

    private static int questionWithError(StandingPayments x, int which) {
        switch (which) {
            case 48: return x.ofDay(1095, 0) + 2;
            case 49: return (int) x.money(8, 0) + 1;
            case 50: return (int) x.money(0, 9) + 2;
            case 51: return (int) x.owedBits(8) + 1;
            case 52: return x.ofOrder(0, 16) + 2;
            case 53: return x.ofPayment(0, 5) + 2;
            case 54: return x.count(15) + 2;
            case 55: return x.dateOf(0, 100) + 2;
            case 56: return x.shift(0, 5) + 2;
            case 57: return (int) x.balanceIn(0, 401) + 2;
            case 58: return x.firstFailure(8) + 1;
            case 59: return x.leastDeposit(0, 101) + 2;
            case 60: return x.ahead(0, 401, 0) + 2;
            case 61: return x.ahead(0, 1, 4) + 2;
            default: return x.ofDay(0, 6) + 2;
        }
    }

    /** "A call that returns an error changes nothing": not the house, nor the pad, the history and the slots. */
    private static void changesNothing(int which) {
        StandingPayments x = full();
        Due.is("error " + which, error(x, which), 0);
        Answers.same("error " + which + " changes nothing", Answers.of(x), Answers.of(full()));
        StandingPayments y = full();
        error(y, which);
        Due.is("error " + which + " is not recorded", y.undo(), 5);
        StandingPayments undone = full();
        undone.undo();
        Answers.same("error " + which + " leaves the history", Answers.of(y), Answers.of(undone));
        StandingPayments z = full();
        error(z, which);
        Due.is("error " + which + " leaves the slot", z.restore(0), 5);
        Due.is("error " + which + " saves nothing", z.restore(1), -5);
        StandingPayments restored = full();
        restored.restore(0);
        Answers.same("error " + which + " leaves what is saved", Answers.of(z), Answers.of(restored));
    }

    /** "what if; nothing changes", and what there is as well. */
    private static void questionsChangeNothing() {
        StandingPayments x = full();
        askAll(x);
        Answers.same("questions change nothing", Answers.of(x), Answers.of(full()));
        StandingPayments y = full();
        askAll(y);
        y.undo();
        y.restore(0);
        StandingPayments due = full();
        due.undo();
        due.restore(0);
        Answers.same("questions leave history and slots", Answers.of(y), Answers.of(due));
    }

    private static void askAll(StandingPayments x) {
        for (int account = 0; account < 3; account++) {
            x.balanceIn(account, 400);
            x.firstFailure(account);
            x.leastDeposit(account, 100);
            x.dateOf(account, 99);
            for (int what = 0; what < 4; what++) x.ahead(account, 400, what);
        }
        x.firstFailure(-6);
        x.shift(5, 1);
        x.ofDay(5, 4);
        x.fault();
    }

    /** "it names its errors in the order in which they are checked, and the first one that applies is returned" */
    private static void firstOneOfThoseThatApply() {
        StandingPayments x = full();
        Due.is("holiday: day before too many", x.holiday(1095, 1), -2);
        Due.is("holiday: is before too many", x.holiday(64, 2), -2);
        Due.is("account: overdraft before too many", x.account(1000001, 0), -2);
        Due.is("account: keeps before too many", x.account(0, -1), -2);
        Due.is("deposit: account before cents", x.deposit(8, 0), -1);
        Due.is("order: parties before all", x.order(0, 0, 0, -1, -1, -1), -1);
        Due.is("order: parties before too many", x.order(72, 1, 101, 7, 0, 0), -1);
        Due.is("order: amount before too many", x.order(8, 1000001, 101, 7, 0, 0), -2);
        Due.is("order: dates before too many", x.order(8, 1, 132, 7, 0, 0), -2);
        Due.is("order: first before too many", x.order(8, 1, 101, 1095, 0, 0), -2);
        Due.is("order: how before too many", x.order(8, 1, 101, 7, -1, 0), -2);
        Due.is("order: many before too many", x.order(8, 1, 101, 7, 0, -1), -2);
        Due.is("change: order before amount", x.change(16, 0, 10), -1);
        Due.is("change: amount before over", x.change(2, 0, 5), -2);
        Due.is("change: priority before over", x.change(2, 1, -1), -2);
        Due.is("put: signs before too many", x.put(127), -2);
        Due.is("put: no sign before too many", x.put(0), -2);
        Due.is("put: a bit above before too many", x.put(1L << 40 | 'a'), -2);
        Due.is("money: account before what", x.money(8, 9), -1);
        Due.is("ofOrder: order before what", x.ofOrder(16, 16), -1);
        Due.is("ofPayment: payment before what", x.ofPayment(17520, 5), -1);
        Due.is("dateOf: order before k", x.dateOf(16, 100), -1);
        Due.is("balanceIn: account before days", x.balanceIn(8, 0), -1);
        Due.is("leastDeposit: account before days", x.leastDeposit(8, 0), -1);
        Due.is("ahead: order before days", x.ahead(16, 0, 0), -1);
        Due.is("ahead: order before what", x.ahead(16, 1, 4), -1);
        Due.is("restore: slot before saved", x.restore(2), -2);
        Due.is("days: up to the last", x.days(400) + x.days(400) + x.days(287), 407 + 807 + 1094);
        Due.is("days: days before too late", x.days(0), -2);
        Due.is("days: too many before too late", x.days(401), -2);
        Due.is("days: too late", x.days(1), -5);
    }

    /** "NONE (-6) is not an error; it is returned only if no error applies" */
    private static void noneOnlyWithoutError() {
        StandingPayments x = full();
        Due.is("feed: NONE", x.feed(1, 0), -6);
        Due.is("feed: an error", x.feed(2, 2), -1);
        Due.is("ofOrder: over, NONE", x.ofOrder(2, 15), -6);
        Due.is("ofOrder: over, an error", x.ofOrder(2, 16), -2);
        Due.is("dateOf: over, NONE", x.dateOf(2, 0), -6);
        Due.is("dateOf: over, an error", x.dateOf(2, 100), -2);
        Due.is("firstFailure: NONE", x.firstFailure(7), -6);
        Due.is("firstFailure: an error", x.firstFailure(8), -1);
        x.stop(3);
        x.change(0, 100001, 5);
        Due.is("leastDeposit: NONE", x.leastDeposit(0, 100), -6);
        Due.is("leastDeposit: an error", x.leastDeposit(0, 101), -2);
        x.wipe();
        Due.write(x, "n1");
        Due.is("fault: NONE", x.fault(), -6);
        Due.is("ofDay: an error", x.ofDay(1095, 4), -2);
        // NONE as an answer is a change, if the method is one.
        Due.is("feed: the change is recorded", x.undo(), 5);
    }

    /** Arguments far from any range are errors wherever they stand, and nothing is thrown by them. */
    private static void oddArguments() {
        int[] odd = {Integer.MIN_VALUE, Integer.MIN_VALUE + 1, -1000000007, -100, -7, Integer.MAX_VALUE, Integer.MAX_VALUE - 7};
        for (int a : odd) {
            StandingPayments x = full();
            Due.is("odd set", x.set(a, 1) + x.set(0, a), -4);
            Due.is("odd holiday", x.holiday(a, 0) + x.holiday(700, a), -4);
            Due.is("odd account", x.account(a, 0) + x.account(0, a), -4);
            Due.is("odd feed", x.feed(a, 0) + x.feed(0, a), -2);
            Due.is("odd deposit", x.deposit(a, 1) + x.deposit(0, a), -3);
            Due.is("odd parties", x.order(a, 1, 101, 7, 0, 0), -1);
            Due.is("odd amount", x.order(8, a, 101, 7, 0, 0), -2);
            Due.is("odd dates", x.order(8, 1, a, 7, 0, 0), -2);
            Due.is("odd first", x.order(8, 1, 101, a, 0, 0), -2);
            Due.is("odd how", x.order(8, 1, 101, 7, a, 0), -2);
            Due.is("odd many", x.order(8, 1, 101, 7, 0, a), -2);
            Due.is("odd change", x.change(a, 1, 1) + x.change(0, a, 1) + x.change(0, 1, a), -5);
            Due.is("odd stop", x.stop(a) + x.goOn(a) + x.giveUp(a), -3);
            Due.is("odd days", x.days(a), -2);
            Due.is("odd ofDay", x.ofDay(a, 0) + x.ofDay(0, a), -4);
            Due.is("odd money", x.money(a, 0) + x.money(0, a) + x.owedBits(a), -4);
            Due.is("odd ofOrder", x.ofOrder(a, 0) + x.ofOrder(0, a), -3);
            Due.is("odd ofPayment", x.ofPayment(a, 0) + x.ofPayment(0, a), -3);
            Due.is("odd count", x.count(a), -2);
            Due.is("odd dateOf", x.dateOf(a, 0) + x.dateOf(0, a), -3);
            Due.is("odd shift", x.shift(a, 0) + x.shift(0, a), -4);
            Due.is("odd balanceIn", x.balanceIn(a, 1) + x.balanceIn(0, a), -3);
            Due.is("odd firstFailure", x.firstFailure(a), -1);
            Due.is("odd leastDeposit", x.leastDeposit(a, 1) + x.leastDeposit(0, a), -3);
            Due.is("odd ahead", x.ahead(a, 1, 0) + x.ahead(0, a, 0) + x.ahead(0, 1, a), -5);
            Due.is("odd slots", x.save(a) + x.restore(a), -4);
            Due.is("odd put", x.put((long) a << 32) + x.put((long) a << 32 | 0xFF), -4);
            Answers.same("odd " + a, Answers.of(x), Answers.of(full()));
        }
    }
}
