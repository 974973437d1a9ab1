/** Promises 7 to 12: orders, their changes and ends, payments that are given up, and what is done when days pass. */
public final class Orders {
    public static void main(String[] args) {
        promise7Order();
        promise7LeavesOutWhatIsBeforeToday();
        promise8Change();
        promise9Stop();
        promise10GoOn();
        promise11GiveUp();
        promise12Days();
        promise12OrdersFallDue();
        promise12Sweeps();
        promise12Payments();
        promise12TriesAndFees();
        promise12Interest();
        Due.end();
    }

    private static StandingPayments withAccounts(int accounts) {
        StandingPayments x = new StandingPayments();
        for (int i = 0; i < accounts; i++) x.account(0, 0);
        return x;
    }

    private static void promise7Order() {
        StandingPayments x = withAccounts(3);
        Due.is("7: parties below", x.order(-1, 1, 101, 0, 0, 0), -1);
        Due.is("7: parties far below", x.order(Integer.MIN_VALUE, 1, 101, 0, 0, 0), -1);
        Due.is("7: parties far above", x.order(Integer.MAX_VALUE, 1, 101, 0, 0, 0), -1);
        Due.is("7: no payer", x.order(9 * 3 + 1, 1, 101, 0, 0, 0), -1);
        Due.is("7: no getter", x.order(9 * 1 + 3, 1, 101, 0, 0, 0), -1);
        Due.is("7: both the same", x.order(9 * 1 + 1, 1, 101, 0, 0, 0), -1);
        Due.is("7: parties before values", x.order(9 * 1 + 1, 0, 0, -1, -1, -1), -1);
        int[][] bad = {
            {0, 101, 0, 0, 0}, {-1, 101, 0, 0, 0}, {1000001, 101, 0, 0, 0},
            {1, -1, 0, 0, 0}, {1, 1, 0, 0, 0}, {1, 100, 0, 0, 0}, {1, 132, 0, 0, 0}, {1, 1301, 0, 0, 0},
            {1, 40101, 0, 0, 0}, {1, 30001, 0, 0, 0}, {1, 9999, 0, 0, 0}, {1, Integer.MAX_VALUE, 0, 0, 0},
            {1, Integer.MIN_VALUE, 0, 0, 0}, {1, 101, -1, 0, 0}, {1, 101, 1095, 0, 0},
            {1, 101, 0, -1, 0}, {1, 101, 0, 50, 0}, {1, 101, 0, 0, -1}, {1, 101, 0, 0, 100}};
        for (int[] row : bad) {
            Due.is("7: a bad value", x.order(8, row[0], row[1], row[2], row[3], row[4]), -2);
        }
        Due.is("7: nothing changed", x.count(10), 3);
        Due.is("7: none made", x.count(2), 0);
        Due.is("7: its number", x.order(9 * 2 + 1, 1000000, 31231, 1094, 49, 99), 0);
        int[] wanted = {2, 1, 1000000, 3, 12, 31, 1094, 4, 9, 99, 0, 0, 0, 0, 0, 1094};
        for (int i = 0; i < wanted.length; i++) Due.is("7: ofOrder " + i, x.ofOrder(0, i), wanted[i]);
        Due.is("7: the least", x.order(8, 1, 101, 0, 0, 0), 1);
        int[] least = {0, -6, 1, 0, 1, 1, 0, 0, 0, 0, 0, 0, 0, 0, 0, 0};
        for (int i = 0; i < least.length; i++) Due.is("7: ofOrder " + i, x.ofOrder(1, i), least[i]);
        for (int i = 2; i < 16; i++) Due.is("7: its number", x.order(26, 1, 101, 0, 0, 0), i);
        Due.is("7: too many", x.order(26, 1, 101, 0, 0, 0), -4);
        Due.is("7: a bad value first", x.order(26, 0, 101, 0, 0, 0), -2);
        Due.is("7: no such first", x.order(0, 1, 101, 0, 0, 0), -1);
        Due.is("7: told", x.count(2), 16);
        x.days(5);
        Due.is("7: before today", withDays(5).order(8, 1, 101, 4, 0, 0), -2);
        Due.is("7: today", withDays(5).order(8, 1, 101, 5, 0, 0), 0);
    }

    private static StandingPayments withDays(int days) {
        StandingPayments x = withAccounts(2);
        x.days(days);
        return x;
    }

    private static void promise7LeavesOutWhatIsBeforeToday() {
        // Today is the Sunday 6: the last business day before is the Friday 4.
        StandingPayments x = withDays(6);
        x.order(8, 1, 101, 6, 25, 2);
        Due.is("7: the Sunday is left out", x.ofOrder(0, 15), 7);
        Due.is("7: not taken from what is left", x.ofOrder(0, 9), 2);
        Due.is("7: not skipped", x.ofOrder(0, 13), 0);
        x.order(8, 1, 10101, 6, 25, 0);
        // All Sundays fall on Fridays before them: 13 on 11.
        Due.is("7: the next Sunday", x.ofOrder(1, 15), 13);
        Due.is("7: its date", x.dateOf(1, 0), 11);
        x.order(8, 1, 101, 6, 5, 0);
        Due.is("7: not shifted, not left out", x.ofOrder(2, 15), 6);
        x.order(8, 1, 101, 6, 45, 0);
        Due.is("7: skipped later, not left out", x.ofOrder(3, 15), 6);
        // The month of the first day has no occurrence of the day 3 from the day 6 on.
        x.order(8, 1, 20203, 6, 5, 0);
        Due.is("7: counted from that month", x.ofOrder(4, 15), 61);
        Due.is("7: the first day stays", x.ofOrder(4, 6), 6);
        // All left out: the last day of all is a Sunday, its order is made on it.
        StandingPayments y = withAccounts(1);
        y.set(3, 4);
        y.days(400);
        y.days(400);
        y.days(294);
        Due.is("7: the last day is a Sunday", y.ofDay(1094, 0), 6);
        Due.is("7: on the last day", y.order(8, 1, 101, 1094, 25, 0), 0);
        Due.is("7: nothing is left of it", y.ofOrder(0, 15), -6);
        Due.is("7: but it is not over", y.ofOrder(0, 10), 0);
    }

    private static void promise8Change() {
        StandingPayments x = withAccounts(1);
        x.order(8, 500, 101, 0, 5, 1);
        Due.is("8: no order", x.change(1, 1, 0), -1);
        Due.is("8: no order below", x.change(-1, 0, 0), -1);
        Due.is("8: amount below", x.change(0, 0, 0), -2);
        Due.is("8: amount above", x.change(0, 1000001, 0), -2);
        Due.is("8: priority below", x.change(0, 1, -1), -2);
        Due.is("8: priority above", x.change(0, 1, 10), -2);
        Due.is("8: nothing changed", x.count(10), 2);
        Due.is("8: the previous amount", x.change(0, 1000000, 9), 500);
        Due.is("8: the previous amount", x.change(0, 600, 0), 1000000);
        Due.is("8: amount", x.ofOrder(0, 2), 600);
        Due.is("8: priority", x.ofOrder(0, 8), 0);
        x.stop(0);
        Due.is("8: a stopped one too", x.change(0, 700, 3), 600);
        x.goOn(0);
        x.days(1);
        Due.is("8: it is over", x.ofOrder(0, 10), 2);
        Due.is("8: over", x.change(0, 1, 0), -5);
        Due.is("8: a bad value first", x.change(0, 0, 0), -2);
        StandingPayments y = withAccounts(1);
        y.order(8, 500, 101, 0, 5, 0);
        y.days(1);
        y.change(0, 40, 5);
        y.days(1);
        Due.is("8: what waits keeps its amount", y.ofPayment(0, 1), 500);
        Due.is("8: the next has the new one", y.ofPayment(1, 1), 40);
        Due.is("8: together", y.money(0, 8), 540);
        y.stop(0);
        // Three tries failed, for 250 each.
        y.deposit(0, 750 + 540);
        y.days(1);
        Due.is("8: each paid with its own", y.money(0, 2), 540);
        Due.is("8: nothing is left", y.money(0, 0), 0);
    }

    private static void promise9Stop() {
        StandingPayments x = withAccounts(1);
        x.order(8, 500, 101, 0, 5, 3);
        x.order(8, 100, 101, 0, 5, 2);
        Due.is("9: no order", x.stop(2), -1);
        Due.is("9: no order below", x.stop(-1), -1);
        x.days(2);
        Due.is("9: two of it wait", x.stop(0), 2);
        Due.is("9: it is stopped", x.ofOrder(0, 10), 1);
        Due.is("9: it does not go on", x.stop(0), -5);
        Due.is("9: the other is over", x.stop(1), -5);
        Due.is("9: only one change", x.count(10), 5);
        x.days(1);
        Due.is("9: no payment more", x.ofOrder(0, 14), 1);
        Due.is("9: its payments were tried on", x.ofOrder(0, 12), 1);
        x.deposit(0, 10000);
        x.days(200);
        Due.is("9: its payments went on", x.ofOrder(0, 11), 1);
        Due.is("9: it is not over by time", x.ofOrder(0, 10), 1);
        Due.is("9: its end is kept", x.ofOrder(0, 9), 1);
        StandingPayments y = withAccounts(1);
        y.order(8, 500, 101, 0, 5, 0);
        Due.is("9: none waits", y.stop(0), 0);
    }

    private static void promise10GoOn() {
        StandingPayments x = withAccounts(1);
        x.order(8, 500, 101, 0, 15, 9);
        Due.is("10: no order", x.goOn(1), -1);
        Due.is("10: no order below", x.goOn(-1), -1);
        Due.is("10: it goes on", x.goOn(0), -5);
        x.stop(0);
        Due.is("10: at once", x.goOn(0), 0);
        Due.is("10: it goes on again", x.ofOrder(0, 10), 0);
        x.stop(0);
        x.days(7);
        // 0 to 4 fall before the Monday 7, the Saturday 5 and the Sunday 6 fall on it.
        Due.is("10: left out", x.goOn(0), 5);
        Due.is("10: the next one", x.ofOrder(0, 15), 5);
        Due.is("10: none taken", x.ofOrder(0, 9), 9);
        x.days(1);
        Due.is("10: three at once", x.ofOrder(0, 14), 3);
        Due.is("10: three taken", x.ofOrder(0, 9), 6);
        // Without an occurrence more it is over only when a day passes.
        StandingPayments y = withAccounts(1);
        y.order(8, 500, 21215, 800, 5, 0);
        y.stop(0);
        y.days(400);
        y.days(400);
        y.days(20);
        Due.is("10: the only one is left out", y.goOn(0), 1);
        Due.is("10: there is none", y.ofOrder(0, 15), -6);
        Due.is("10: not over yet", y.ofOrder(0, 10), 0);
        Due.is("10: it goes on", y.goOn(0), -5);
        y.days(1);
        Due.is("10: over", y.ofOrder(0, 10), 2);
        Due.is("10: over", y.goOn(0), -5);
        Due.is("10: over", y.stop(0), -5);
    }

    private static void promise11GiveUp() {
        StandingPayments x = withAccounts(2);
        x.order(8, 10, 101, 0, 5, 0);
        x.order(17, 200, 101, 0, 5, 0);
        Due.is("11: none waits", x.giveUp(0), -1);
        x.days(2);
        Due.is("11: four wait", x.count(4), 4);
        Due.is("11: no such", x.giveUp(4), -1);
        Due.is("11: no such below", x.giveUp(-1), -1);
        Due.is("11: nothing changed", x.count(10), 5);
        Due.is("11: the second", x.giveUp(1), 3);
        Due.is("11: missed", x.ofOrder(1, 12), 1);
        Due.is("11: of the house", x.count(6), 1);
        Due.is("11: one of it waits", x.ofOrder(1, 14), 1);
        Due.is("11: the other's are untouched", x.ofOrder(0, 14), 2);
        Due.is("11: what waits", x.money(1, 8), 200);
        Due.is("11: the next moves up", x.ofPayment(1, 0), 0);
        Due.is("11: due on the next day", x.ofPayment(1, 3), 1);
        Due.is("11: then its own", x.ofPayment(2, 0), 1);
        Due.is("11: no try failed by it", x.count(8), 4 + 2);
        Due.is("11: no fee is taken for it", x.money(1, 0) + x.money(1, 6), 0);
        Due.is("11: three tries of it failed", x.money(1, 6), 3 * 250);
        Due.is("11: the last", x.giveUp(2), 2);
        Due.is("11: nothing waits", x.money(1, 8), 0);
        Due.is("11: undone", x.undo(), 6 - 1);
        Due.is("11: it waits again", x.money(1, 8), 200);
        Due.is("11: three", x.count(4), 3);
        // Of an order that is over, and of one that is stopped, too; the only one leaves none.
        StandingPayments y = withAccounts(1);
        y.order(8, 10, 101, 0, 5, 1);
        y.order(8, 20, 101, 0, 5, 0);
        y.days(1);
        y.stop(1);
        Due.is("11: over", y.ofOrder(0, 10), 2);
        Due.is("11: of an order that is over", y.giveUp(0), 1);
        Due.is("11: no such any more", y.giveUp(1), -1);
        Due.is("11: of an order that is stopped", y.giveUp(0), 0);
        Due.is("11: none is left", y.giveUp(0), -1);
        Due.is("11: both missed", y.ofOrder(0, 12) * 10 + y.ofOrder(1, 12), 11);
        Due.is("11: they stay over and stopped", y.ofOrder(0, 10) * 10 + y.ofOrder(1, 10), 21);
    }

    private static void promise12Days() {
        StandingPayments x = new StandingPayments();
        Due.is("12: none", x.days(0), -2);
        Due.is("12: below", x.days(-1), -2);
        Due.is("12: above", x.days(401), -2);
        Due.is("12: far above", x.days(Integer.MAX_VALUE), -2);
        Due.is("12: nothing changed", x.count(10), 0);
        Due.is("12: one", x.days(1), 1);
        Due.is("12: 400", x.days(400), 401);
        Due.is("12: 400 more", x.days(400), 801);
        Due.is("12: too late", x.days(294), -5);
        Due.is("12: a bad value first", x.days(401), -2);
        Due.is("12: up to the last", x.days(293), 1094);
        Due.is("12: none behind it", x.days(1), -5);
        Due.is("12: today", x.count(0), 1094);
    }

    private static void promise12OrdersFallDue() {
        StandingPayments x = withAccounts(1);
        x.set(0, 9);
        x.order(8, 1, 301, 0, 5, 0);
        x.order(8, 1, 10201, 3, 5, 0);
        x.order(8, 1, 101, 4, 45, 4);
        x.days(10);
        // Every third day from 0 on: 0 3 6 9; every second week from 3 on: 3; 4, (5, 6 skipped), 7.
        Due.is("12: every third day", x.ofOrder(0, 14), 4);
        Due.is("12: every second week", x.ofOrder(1, 14), 1);
        Due.is("12: weekends are skipped", x.ofOrder(2, 13), 2);
        Due.is("12: skipped ones count", x.ofOrder(2, 14), 2);
        Due.is("12: skipped in the house", x.count(7), 2);
        Due.is("12: it is over", x.ofOrder(2, 10), 2);
        Due.is("12: the others are not", x.ofOrder(0, 10), 0);
        Due.is("12: the next of it", x.ofOrder(1, 15), 17);
        // In the order in which they became due, of one day by their orders.
        int[] orders = {0, 0, 1, 2, 0, 2, 0};
        int[] days = {0, 3, 3, 4, 6, 7, 9};
        Due.is("12: all of them", x.count(4), orders.length);
        for (int i = 0; i < orders.length; i++) {
            Due.is("12: order of payment " + i, x.ofPayment(i, 0), orders[i]);
            Due.is("12: nominal day of payment " + i, x.ofPayment(i, 2), days[i]);
            Due.is("12: due day of payment " + i, x.ofPayment(i, 3), days[i]);
        }
        // A holiday that is named too late makes a date pass: the payment is due on the next day.
        StandingPayments y = withAccounts(1);
        y.order(8, 1, 10101, 5, 15, 0);
        y.days(7);
        y.set(3, 2);
        Due.is("12: the day 5 is a Monday now", y.dateOf(0, 0), 5);
        y.days(1);
        Due.is("12: nominal day", y.ofPayment(0, 2), 5);
        Due.is("12: due behind it", y.ofPayment(0, 3), 7);
    }

    private static void promise12Sweeps() {
        StandingPayments x = new StandingPayments();
        x.account(100, 0);
        x.account(0, 300);
        x.account(0, 0);
        x.feed(0, 1);
        x.deposit(0, 50);
        x.deposit(1, 2000);
        x.order(8, 1000, 101, 0, 5, 1);
        x.days(1);
        Due.is("12: the rest is moved", x.money(0, 4), 850);
        Due.is("12: from the feeder", x.money(1, 5), 850);
        Due.is("12: paid to the overdraft", x.money(0, 0), -100);
        Due.is("12: the feeder's balance", x.money(1, 0), 1150);
        Due.is("12: no sweep got or gave else", x.money(1, 4) + x.money(0, 5) + x.money(2, 4), 0);
        x.order(8, 1151, 101, 1, 5, 1);
        x.deposit(0, 1150);
        x.days(1);
        Due.is("12: one cent is moved", x.money(0, 4), 851);
        Due.is("12: and paid", x.money(0, 2), 2151);
        // Nothing waits, but the fee lies below the overdraft: also on a Saturday.
        StandingPayments y = new StandingPayments();
        y.account(100, 0);
        y.account(0, 300);
        y.order(8, 101, 101, 4, 5, 1);
        y.set(0, 1);
        y.days(5);
        Due.is("12: a fee below the overdraft", y.money(0, 0), -250);
        y.feed(0, 1);
        y.deposit(1, 330);
        y.days(1);
        Due.is("12: at most what is not kept", y.money(0, 4), 30);
        y.deposit(1, 500);
        y.days(1);
        Due.is("12: up to the overdraft", y.money(0, 4), 150);
        Due.is("12: balance", y.money(0, 0), -100);
        Due.is("12: the feeder keeps the rest", y.money(1, 0), 680);
        // A feeder below what it keeps gives nothing; chains run in ascending order.
        StandingPayments z = new StandingPayments();
        for (int i = 0; i < 3; i++) z.account(0, i == 2 ? 50 : 0);
        z.feed(0, 1);
        z.feed(1, 2);
        z.deposit(1, 60);
        z.deposit(2, 40);
        z.order(8, 100, 101, 0, 5, 1);
        z.order(17, 10, 101, 0, 5, 1);
        z.days(1);
        Due.is("12: all that the feeder has", z.money(0, 4), 60);
        Due.is("12: nothing from one that keeps it", z.money(1, 4), 0);
        Due.is("12: so it gave nothing", z.money(2, 0), 40);
        z.deposit(2, 60);
        z.days(1);
        // 0 lacks 100 - (60 - 250), 1 has -250 by then and lacks 260.
        Due.is("12: 1 has nothing to give at first", z.money(0, 4), 60);
        Due.is("12: 1 is fed behind 0", z.money(1, 4), 50);
    }

    private static void promise12Payments() {
        // The highest priority first, then the longest waiting, then by orders; who gets it has it at once.
        StandingPayments x = withAccounts(2);
        x.set(1, 0);
        x.order(8, 60, 101, 5, 3, 1);
        x.order(8, 50, 101, 5, 7, 1);
        x.order(8, 40, 101, 6, 7, 1);
        x.order(8, 30, 101, 5, 3, 1);
        x.order(9, 20, 101, 7, 9, 1);
        x.deposit(1, 20);
        x.deposit(0, 90);
        x.days(7);
        Due.is("12: not on weekends", x.count(5), 0);
        Due.is("12: nor tried", x.count(8), 0);
        x.days(1);
        // 4: 1 pays 20 to 0 (110); 1 pays 50 (60), 2 pays 40 (20), 0 and 3 fail.
        int[] made = {0, 1, 1, 0, 1};
        for (int i = 0; i < 5; i++) Due.is("12: made " + i, x.ofOrder(i, 11), made[i]);
        Due.is("12: what is left", x.money(0, 0), 20);
        Due.is("12: got", x.money(0, 3), 20);
        Due.is("12: paid", x.money(0, 2), 90);
        Due.is("12: the other paid", x.money(1, 2), 20);
        // The priority as it is now: 3 overtakes 0.
        StandingPayments y = withAccounts(1);
        y.set(1, 0);
        y.order(8, 60, 101, 0, 3, 1);
        y.order(8, 60, 101, 1, 3, 0);
        y.days(2);
        y.deposit(0, 60);
        y.change(1, 60, 4);
        y.days(1);
        Due.is("12: the changed one first", y.ofOrder(1, 11), 1);
        Due.is("12: the longer waiting one not", y.ofOrder(0, 11), 0);
        // Of two that are alike the one that waits longer, of one day that of the lower order.
        StandingPayments z = withAccounts(1);
        z.order(8, 60, 101, 6, 3, 1);
        z.order(8, 60, 101, 5, 3, 1);
        z.order(8, 60, 101, 5, 3, 1);
        z.deposit(0, 130);
        z.days(8);
        Due.is("12: the longest waiting", z.ofOrder(1, 11), 1);
        Due.is("12: the one of the same day", z.ofOrder(2, 11), 1);
        Due.is("12: the latest", z.ofOrder(0, 11), 0);
    }

    private static void promise12TriesAndFees() {
        StandingPayments x = withAccounts(2);
        x.set(0, 2);
        x.set(1, 70);
        x.order(1, 100, 101, 4, 5, 1);
        x.days(5);
        Due.is("12: one try failed", x.ofPayment(0, 4), 1);
        Due.is("12: the fee is taken", x.money(0, 0), -70);
        Due.is("12: told as a fee", x.money(0, 6), 70);
        x.days(2);
        Due.is("12: no try on a weekend", x.ofPayment(0, 4), 1);
        x.set(0, 1);
        Due.is("12: it waits still", x.count(4), 1);
        x.days(1);
        Due.is("12: failed more than TRIES times", x.count(6), 1);
        Due.is("12: nothing waits", x.count(4), 0);
        Due.is("12: two tries failed", x.count(8), 2);
        Due.is("12: two fees", x.money(0, 6), 140);
        Due.is("12: nobody got anything", x.money(1, 3), 0);
        Due.is("12: made none", x.count(5), 0);
        // A later business day finds the money.
        StandingPayments y = withAccounts(2);
        y.order(1, 100, 101, 4, 5, 1);
        y.days(5);
        y.deposit(0, 350);
        y.days(2);
        Due.is("12: not on the weekend", y.count(5), 0);
        y.days(1);
        Due.is("12: made at the second try", y.count(5), 1);
        Due.is("12: nothing waits", y.money(0, 8), 0);
        Due.is("12: the balance", y.money(0, 0), 0);
        Due.is("12: got", y.money(1, 0), 100);
    }

    private static void promise12Interest() {
        StandingPayments x = new StandingPayments();
        x.account(1000000, 0);
        x.account(0, 0);
        x.deposit(1, 100);
        x.order(8, 100000, 101, 28, 5, 1);
        x.days(29);
        // 100000 cents at 0.12 a year, three days up to the 30, which is the last of the month.
        double a = 100000 * (double) (120 / 1000.0f) / 365.0;
        Due.is("12: a day's interest", x.owedBits(0), Double.doubleToLongBits(a));
        x.days(1);
        x.set(2, 1000);
        x.days(1);
        double owed = a + a + 100000 * (double) 1.0f / 365.0;
        Due.is("12: whole cents are taken", x.money(0, 7), (long) owed);
        Due.is("12: from the balance", x.money(0, 0), -100000 - (long) owed);
        Due.is("12: the rest is owed", x.owedBits(0), Double.doubleToLongBits(owed - (long) owed));
        Due.is("12: no interest above 0", x.owedBits(1), 0);
        x.set(2, 7);
        x.days(1);
        double rest = owed - (long) owed;
        double later = rest + (100000 + (long) owed) * (double) (7 / 1000.0f) / 365.0;
        Due.is("12: of the balance then", x.owedBits(0), Double.doubleToLongBits(later));
        // Interest that is owed is taken also from a balance above 0.
        x.set(2, 1000);
        x.days(20);
        x.deposit(0, 500000);
        x.days(6);
        long before = x.money(0, 7);
        Due.is("12: nothing taken yet", before, (long) owed);
        Due.is("12: the last day of February", x.days(1), 59);
        Due.is("12: taken from above 0", x.money(0, 0), 400000 - x.money(0, 7));
        Due.is("12: some was taken", x.money(0, 7) > before ? 1 : 0, 1);
        double left = Double.longBitsToDouble(x.owedBits(0));
        Due.is("12: less than a cent is owed", left >= 0 && left < 1 ? 1 : 0, 1);
    }
}
