/** Promises 1 to 6: a new object, settings, holidays, accounts, feeders and deposits. */
public final class CalendarAndAccounts {
    public static void main(String[] args) {
        promise1ANewObject();
        promise2Set();
        promise3Holiday();
        promise4Account();
        promise5Feed();
        promise6Deposit();
        Due.end();
    }

    private static void promise1ANewObject() {
        StandingPayments x = new StandingPayments();
        for (int what = 0; what <= 10; what++) Due.is("1: count(" + what + ")", x.count(what), 0);
        Due.is("1: TRIES", x.count(11), 3);
        Due.is("1: FEE", x.count(12), 250);
        Due.is("1: RATE", x.count(13), 120);
        Due.is("1: WEEKDAY", x.count(14), 0);
        Due.is("1: no account", x.money(0, 0), -1);
        Due.is("1: no account owes", x.owedBits(0), -1);
        Due.is("1: no order", x.ofOrder(0, 0), -1);
        Due.is("1: no payment", x.ofPayment(0, 0), -1);
        Due.is("1: nothing to undo", x.undo(), -5);
        Due.is("1: slot 0 is empty", x.restore(0), -5);
        Due.is("1: slot 1 is empty", x.restore(1), -5);
        Due.is("1: the day 0 is a Monday", x.ofDay(0, 0), 0);
        Due.is("1: and a business day", x.ofDay(0, 3), 1);
        Due.is("1: nobody fails", x.firstFailure(-6), -6);
        StandingPayments other = new StandingPayments();
        other.account(0, 0);
        Due.is("1: two objects are two houses", x.count(1), 0);
    }

    private static void promise2Set() {
        StandingPayments x = new StandingPayments();
        int[] least = {1, 0, 0, 0};
        int[] most = {9, 10000, 1000, 6};
        int[] first = {3, 250, 120, 0};
        for (int setting = 0; setting < 4; setting++) {
            Due.is("2: below " + setting, x.set(setting, least[setting] - 1), -2);
            Due.is("2: above " + setting, x.set(setting, most[setting] + 1), -2);
            Due.is("2: far below", x.set(setting, Integer.MIN_VALUE), -2);
            Due.is("2: far above", x.set(setting, Integer.MAX_VALUE), -2);
            Due.is("2: unchanged " + setting, x.count(11 + setting), first[setting]);
        }
        Due.is("2: errors are no changes", x.count(10), 0);
        for (int setting = 0; setting < 4; setting++) {
            Due.is("2: least " + setting, x.set(setting, least[setting]), first[setting]);
            Due.is("2: most " + setting, x.set(setting, most[setting]), least[setting]);
            Due.is("2: is " + setting, x.count(11 + setting), most[setting]);
        }
        Due.is("2: no setting -1", x.set(-1, 1), -2);
        Due.is("2: no setting 4", x.set(4, 1), -2);
        Due.is("2: no setting far off", x.set(Integer.MAX_VALUE, 1), -2);
        Due.is("2: no setting far below", x.set(Integer.MIN_VALUE, 1), -2);
        Due.is("2: the day 0 is a Sunday", x.ofDay(0, 0), 6);
        Due.is("2: the day 1 is a Monday", x.ofDay(1, 0), 0);
        Due.is("2: changes", x.count(10), 6);
        Due.is("2: the same again is a change", x.set(3, 6), 6);
    }

    private static void promise3Holiday() {
        StandingPayments x = new StandingPayments();
        Due.is("3: day below", x.holiday(-1, 1), -2);
        Due.is("3: day above", x.holiday(1095, 1), -2);
        Due.is("3: is below", x.holiday(3, -1), -2);
        Due.is("3: is above", x.holiday(3, 2), -2);
        Due.is("3: far off", x.holiday(Integer.MAX_VALUE, Integer.MIN_VALUE), -2);
        Due.is("3: far below", x.holiday(Integer.MIN_VALUE, 1), -2);
        Due.is("3: nothing changed", x.count(10), 0);
        Due.is("3: first day", x.holiday(0, 1), 1);
        Due.is("3: last day", x.holiday(1094, 1), 2);
        Due.is("3: no business day", x.ofDay(0, 3), 0);
        Due.is("3: no business day", x.ofDay(1094, 3), 0);
        Due.is("3: its neighbour is one", x.ofDay(1, 3), 1);
        Due.is("3: once more", x.holiday(0, 1), 2);
        Due.is("3: was none", x.holiday(63, 0), 2);
        Due.is("3: a Saturday", x.holiday(5, 1), 3);
        Due.is("3: taken back", x.holiday(0, 0), 2);
        Due.is("3: a business day again", x.ofDay(0, 3), 1);
        Due.is("3: the Saturday is none", x.holiday(5, 0), 1);
        Due.is("3: nor then", x.ofDay(5, 3), 0);
        Due.is("3: all are changes", x.count(10), 6);
        for (int i = 0; i < 19; i++) Due.is("3: more", x.holiday(100 + i, 1), 2 + i);
        Due.is("3: too many", x.holiday(64, 1), -4);
        Due.is("3: a bad day first", x.holiday(2000, 1), -2);
        Due.is("3: one that is one", x.holiday(1094, 1), 20);
        Due.is("3: taken back of 20", x.holiday(64, 0), 20);
        Due.is("3: 19 are left", x.holiday(100, 0), 19);
        Due.is("3: 20 again", x.holiday(64, 1), 20);
        Due.is("3: told", x.count(3), 20);
    }

    private static void promise4Account() {
        StandingPayments x = new StandingPayments();
        Due.is("4: overdraft below", x.account(-1, 0), -2);
        Due.is("4: overdraft above", x.account(1000001, 0), -2);
        Due.is("4: keeps below", x.account(0, -1), -2);
        Due.is("4: keeps above", x.account(0, 1000001), -2);
        Due.is("4: nothing changed", x.count(10), 0);
        for (int i = 0; i < 8; i++) {
            Due.is("4: its number", x.account(i == 0 ? 1000000 : 0, i == 1 ? 1000000 : i), i);
            for (int what = 0; what < 9; what++) Due.is("4: starts at 0", x.money(i, what), 0);
            Due.is("4: owes nothing", x.owedBits(i), 0);
        }
        Due.is("4: too many", x.account(0, 0), -4);
        Due.is("4: a bad value first", x.account(-1, 0), -2);
        Due.is("4: told", x.count(1), 8);
        Due.is("4: changes", x.count(10), 6);
        // An overdraft pays as far as it reaches, and not one cent further.
        StandingPayments y = new StandingPayments();
        y.account(700, 0);
        y.account(699, 0);
        y.order(8, 700, 101, 0, 0, 1);
        y.order(17, 700, 101, 0, 0, 1);
        y.days(1);
        Due.is("4: overdraft used", y.money(0, 0), -700);
        Due.is("4: overdraft too small", y.money(1, 0), -250);
    }

    private static void promise5Feed() {
        StandingPayments x = new StandingPayments();
        x.account(0, 0);
        x.account(0, 0);
        x.account(0, 0);
        Due.is("5: no account", x.feed(3, 0), -1);
        Due.is("5: no account below", x.feed(-1, 0), -1);
        Due.is("5: NONE is no account", x.feed(-6, 0), -1);
        Due.is("5: no feeder", x.feed(0, 3), -1);
        Due.is("5: no feeder below", x.feed(0, -1), -1);
        Due.is("5: itself", x.feed(1, 1), -1);
        Due.is("5: far off", x.feed(Integer.MAX_VALUE, Integer.MIN_VALUE), -1);
        Due.is("5: nothing changed", x.count(10), 3);
        Due.is("5: none before", x.feed(0, 1), -6);
        Due.is("5: NONE is no error", x.count(10), 4);
        Due.is("5: one before", x.feed(0, 2), 1);
        Due.is("5: both ways", x.feed(2, 0), -6);
        Due.is("5: taken away", x.feed(0, -6), 2);
        Due.is("5: none again", x.feed(0, -6), -6);
        Due.is("5: undone", x.undo(), 5);
        Due.is("5: undone", x.undo(), 4);
        Due.is("5: the feeder is back", x.feed(0, 1), 2);
    }

    private static void promise6Deposit() {
        StandingPayments x = new StandingPayments();
        x.account(1000, 0);
        Due.is("6: no account", x.deposit(1, 5), -1);
        Due.is("6: no account below", x.deposit(-1, 0), -1);
        Due.is("6: nothing", x.deposit(0, 0), -2);
        Due.is("6: below", x.deposit(0, -5), -2);
        Due.is("6: too much", x.deposit(0, 100000001), -2);
        Due.is("6: nothing changed", x.count(10), 1);
        Due.is("6: one cent", x.deposit(0, 1), 1);
        Due.is("6: most", x.deposit(0, 100000000), 1);
        for (int i = 0; i < 30; i++) x.deposit(0, 100000000);
        Due.is("6: beyond 32 bits", x.money(0, 0), 3100000001L);
        Due.is("6: paid in", x.money(0, 1), 3100000001L);
        StandingPayments y = new StandingPayments();
        y.account(1000, 0);
        y.set(2, 0);
        y.order(8, 1000, 101, 0, 0, 1);
        y.days(1);
        Due.is("6: still below 0", y.deposit(0, 999), 0);
        Due.is("6: 0 is at least 0", y.deposit(0, 1), 1);
        Due.is("6: above", y.deposit(0, 1), 1);
        Due.is("6: balance", y.money(0, 0), 1);
        Due.is("6: paid in", y.money(0, 1), 1001);
    }
}
