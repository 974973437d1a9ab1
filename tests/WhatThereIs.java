/** Promises 13 to 18: numbers about days, accounts, orders, payments and the house. */
public final class WhatThereIs {
    public static void main(String[] args) {
        promise13OfDay();
        promise14Money();
        promise15OwedBits();
        promise16OfOrder();
        promise16FirstMonthByTheCalendarAsItIs();
        promise17OfPayment();
        promise18Count();
        Due.end();
    }

    private static void promise13OfDay() {
        StandingPayments x = new StandingPayments();
        Due.is("13: day below", x.ofDay(-1, 0), -2);
        Due.is("13: day above", x.ofDay(1095, 0), -2);
        Due.is("13: far below", x.ofDay(Integer.MIN_VALUE, 0), -2);
        Due.is("13: far above", x.ofDay(Integer.MAX_VALUE, 0), -2);
        Due.is("13: what below", x.ofDay(0, -1), -2);
        Due.is("13: what above", x.ofDay(0, 6), -2);
        int[] lengths = {31, 28, 31, 30, 31, 30, 31, 31, 30, 31, 30, 31};
        int day = 0;
        for (int month = 0; month < 36; month++) {
            x = new StandingPayments();
            for (int of = 1; of <= lengths[month % 12]; of++) {
                Due.is("13: weekday of " + day, x.ofDay(day, 0), day % 7);
                Due.is("13: month of " + day, x.ofDay(day, 1), month);
                Due.is("13: day of the month of " + day, x.ofDay(day, 2), of);
                Due.is("13: business of " + day, x.ofDay(day, 3), day % 7 < 5 ? 1 : 0);
                Due.is("13: next of " + day, x.ofDay(day, 4), day % 7 < 5 ? day : day + 7 - day % 7);
                Due.is("13: last of " + day, x.ofDay(day, 5), day % 7 < 5 ? day : day - day % 7 + 4);
                day++;
            }
        }
        Due.is("13: so many days", day, 1095);
        x = new StandingPayments();
        x.holiday(0, 1);
        x.holiday(4, 1);
        x.holiday(7, 1);
        x.holiday(1094, 1);
        Due.is("13: a holiday", x.ofDay(4, 3), 0);
        Due.is("13: over the weekend", x.ofDay(4, 4), 8);
        Due.is("13: back over the weekend", x.ofDay(7, 5), 3);
        Due.is("13: none before", x.ofDay(0, 5), -6);
        Due.is("13: none behind", x.ofDay(1094, 4), -6);
        x.set(3, 5);
        Due.is("13: a Saturday now", x.ofDay(0, 0), 5);
        Due.is("13: a Friday now", x.ofDay(6, 0), 4);
        Due.is("13: none before the Sunday", x.ofDay(1, 5), -6);
        Due.is("13: the first business day", x.ofDay(0, 4), 2);
    }

    private static void promise14Money() {
        StandingPayments x = new StandingPayments();
        for (int i = 0; i < 3; i++) x.account(i == 0 ? 200 : 0, 0);
        Due.is("14: no account", x.money(3, 0), -1);
        Due.is("14: no account below", x.money(-1, 99), -1);
        Due.is("14: NONE is no account", x.money(-6, 0), -1);
        Due.is("14: what below", x.money(0, -1), -2);
        Due.is("14: what above", x.money(0, 9), -2);
        x.feed(1, 2);
        x.set(2, 1000);
        x.deposit(0, 1000);
        x.deposit(2, 5000);
        x.order(1, 300, 101, 0, 9, 2);
        x.order(9, 900, 101, 0, 8, 1);
        x.order(8, 1100, 101, 0, 0, 1);
        x.days(1);
        // 1 lacks 900 before it gets 300 and is swept to; 0 has 1000 - 300 + 900, then 1600 - 1100.
        long[] first = {500, 1000, 1400, 900, 0, 0, 0, 0, 0};
        long[] second = {300, 0, 900, 300, 900, 0, 0, 0, 0};
        long[] third = {4100, 5000, 0, 0, 0, 900, 0, 0, 0};
        for (int what = 0; what < 9; what++) {
            Due.is("14: 0, " + what, x.money(0, what), first[what]);
            Due.is("14: 1, " + what, x.money(1, what), second[what]);
            Due.is("14: 2, " + what, x.money(2, what), third[what]);
        }
        x.order(8, 1000000, 101, 1, 0, 2);
        x.days(400);
        for (int account = 0; account < 3; account++) {
            long sum = x.money(account, 1) + x.money(account, 3) + x.money(account, 4) - x.money(account, 2)
                    - x.money(account, 5) - x.money(account, 6) - x.money(account, 7);
            Due.is("14: the sum of " + account, x.money(account, 0), sum);
        }
        Due.is("14: fees", x.money(0, 6), 6 * 250);
        Due.is("14: interest was taken", x.money(0, 7) > 0 ? 1 : 0, 1);
        StandingPayments y = new StandingPayments();
        y.account(0, 0);
        y.order(8, 1000000, 101, 5, 0, 0);
        y.days(7);
        Due.is("14: what waits", y.money(0, 8), 2000000);
    }

    private static void promise15OwedBits() {
        StandingPayments x = new StandingPayments();
        x.account(1000000, 0);
        Due.is("15: no account", x.owedBits(1), -1);
        Due.is("15: no account below", x.owedBits(-1), -1);
        Due.is("15: none", x.owedBits(0), 0);
        // Each sum of a month, from much less than a cent to thousands of cents.
        // With the last four it shows whether the product or the rate is divided, and by which rate.
        int[] amounts = {1, 2, 3, 7, 99, 1000, 12345, 1000000, 5, 11, 65, 123457};
        int[] rates = {1, 120, 7, 1000, 333, 999, 500, 1000, 120, 120, 120, 987};
        for (int i = 0; i < amounts.length; i++) {
            StandingPayments y = new StandingPayments();
            y.account(1000000, 0);
            y.set(2, rates[i]);
            y.order(8, amounts[i], 101, 0, 0, 1);
            double rate = rates[i] / 1000.0f;
            double owed = 0.0;
            long balance = -amounts[i];
            for (int day = 0; day < 75; day++) {
                y.days(1);
                owed += -balance * rate / 365.0;
                if (day == 30 || day == 58) {
                    long cents = (long) owed;
                    balance -= cents;
                    owed -= cents;
                }
                Due.is("15: " + amounts[i] + " on " + day, y.owedBits(0), Double.doubleToLongBits(owed));
                Due.is("15: balance of " + amounts[i] + " on " + day, y.money(0, 0), balance);
            }
        }
        StandingPayments z = new StandingPayments();
        z.account(1000000, 0);
        z.set(2, 0);
        z.order(8, 1000000, 101, 0, 0, 1);
        z.days(40);
        Due.is("15: no rate", z.owedBits(0), 0);
    }

    private static void promise16OfOrder() {
        StandingPayments x = new StandingPayments();
        for (int i = 0; i < 8; i++) x.account(0, 0);
        x.order(9 * 7 + 3, 5000, 20330, 20, 37, 6);
        Due.is("16: no order", x.ofOrder(1, 0), -1);
        Due.is("16: no order below", x.ofOrder(-1, 99), -1);
        Due.is("16: what below", x.ofOrder(0, -1), -2);
        Due.is("16: what above", x.ofOrder(0, 16), -2);
        int[] wanted = {7, 3, 5000, 2, 3, 30, 20, 3, 7, 6, 0, 0, 0, 0, 0, 29};
        for (int what = 0; what < 16; what++) Due.is("16: what " + what, x.ofOrder(0, what), wanted[what]);
        x.order(8, 10, 101, 0, 5, 4);
        x.order(8, 10, 101, 5, 45, 0);
        x.deposit(0, 30);
        x.days(6);
        Due.is("16: made", x.ofOrder(1, 11), 3);
        Due.is("16: failed up to missed", x.ofOrder(1, 12), 0);
        Due.is("16: waits", x.ofOrder(1, 14), 1);
        Due.is("16: none left", x.ofOrder(1, 9), 0);
        Due.is("16: over", x.ofOrder(1, 10), 2);
        Due.is("16: no next one", x.ofOrder(1, 15), -6);
        x.days(2);
        Due.is("16: missed", x.ofOrder(1, 12), 1);
        Due.is("16: waits no more", x.ofOrder(1, 14), 0);
        Due.is("16: skipped", x.ofOrder(2, 13), 2);
        Due.is("16: without end", x.ofOrder(2, 9), 0);
        Due.is("16: the next", x.ofOrder(2, 15), 8);
        // Over by its days, with payments left: none are told.
        StandingPayments y = new StandingPayments();
        y.account(0, 0);
        y.order(8, 10, 21201, 1064, 5, 9);
        y.days(400);
        y.days(400);
        y.days(264);
        Due.is("16: the first of the last month", y.ofOrder(0, 15), 1064);
        Due.is("16: 9 left", y.ofOrder(0, 9), 9);
        y.days(1);
        Due.is("16: over", y.ofOrder(0, 10), 2);
        Due.is("16: over has none left", y.ofOrder(0, 9), 0);
        Due.is("16: over has no next", y.ofOrder(0, 15), -6);
    }

    private static void promise16FirstMonthByTheCalendarAsItIs() {
        // The last business day of January is the 30; the 29 with a holiday, and then before the first day.
        StandingPayments x = new StandingPayments();
        x.account(0, 0);
        x.order(8, 10, 30101, 30, 5, 0);
        Due.is("16: January", x.ofOrder(0, 15), 30);
        x.holiday(30, 1);
        Due.is("16: before the first day is none", x.ofOrder(0, 15), 58);
        Due.is("16: by date too", x.dateOf(0, 0), 58);
        Due.is("16: and the one behind", x.dateOf(0, 1), 88);
        x.holiday(30, 0);
        Due.is("16: January again", x.dateOf(0, 0), 30);
        x.days(31);
        Due.is("16: January was due", x.ofOrder(0, 14), 1);
        Due.is("16: then February", x.ofOrder(0, 15), 58);
        StandingPayments y = new StandingPayments();
        y.account(0, 0);
        y.order(8, 10, 20101, 1, 5, 0);
        Due.is("16: no first of January from the 1 on", y.ofOrder(0, 15), 31);
        y.order(8, 10, 20101, 0, 5, 0);
        Due.is("16: one from the 0 on", y.ofOrder(1, 15), 0);
        y.order(8, 10, 20531, 1, 5, 0);
        Due.is("16: the last of January", y.ofOrder(2, 15), 30);
        Due.is("16: the last of June", y.dateOf(2, 1), 180);
    }

    private static void promise17OfPayment() {
        StandingPayments x = new StandingPayments();
        x.account(0, 0);
        Due.is("17: none", x.ofPayment(0, 0), -1);
        x.order(8, 11, 101, 5, 15, 0);
        x.order(8, 22, 101, 4, 5, 0);
        x.days(8);
        // Friday 4: of 1; Saturday 5, Sunday 6: of 1; Monday 7: 5, 6, 7 of 0, then 7 of 1.
        int[][] rows = {
            {1, 22, 4, 4, 2}, {1, 22, 5, 5, 1}, {1, 22, 6, 6, 1},
            {0, 11, 5, 7, 1}, {0, 11, 6, 7, 1}, {0, 11, 7, 7, 1}, {1, 22, 7, 7, 1}};
        Due.is("17: so many", x.count(4), rows.length);
        for (int i = 0; i < rows.length; i++) {
            for (int what = 0; what < 5; what++) {
                Due.is("17: payment " + i + ", " + what, x.ofPayment(i, what), rows[i][what]);
            }
        }
        Due.is("17: no such", x.ofPayment(7, 0), -1);
        Due.is("17: no such below", x.ofPayment(-1, 9), -1);
        Due.is("17: what below", x.ofPayment(0, -1), -2);
        Due.is("17: what above", x.ofPayment(0, 5), -2);
        // Many wait when no business day comes: sixteen orders, each day, over hundreds of days.
        StandingPayments y = new StandingPayments();
        y.account(0, 0);
        for (int i = 0; i < 16; i++) y.order(8, 1 + i, 101, 0, i % 10, 0);
        for (int n = 0; n < 200; n++) {
            y.set(3, (5 + 7 * 400 - 2 * n) % 7);
            y.days(2);
        }
        Due.is("17: all of them wait", y.count(4), 400 * 16);
        Due.is("17: the last one's order", y.ofPayment(6399, 0), 15);
        Due.is("17: the last one's amount", y.ofPayment(6399, 1), 16);
        Due.is("17: the last one's day", y.ofPayment(6399, 2), 399);
        Due.is("17: one in the middle", y.ofPayment(1605, 3), 100);
        Due.is("17: none failed", y.count(8), 0);
        // The day 400 is a Monday: all of them and 16 more fail.
        Due.is("17: what would be then", y.balanceIn(0, 1), -250 * 6416);
        y.save(0);
        Due.is("17: undone", y.undo(), 5);
        Due.is("17: undone", y.undo(), 4);
        Due.is("17: two days less", y.count(4), 398 * 16);
        y.restore(0);
        Due.is("17: back from the slot", y.count(4), 400 * 16);
        Due.is("17: the last one's day", y.ofPayment(6399, 2), 399);
    }

    private static void promise18Count() {
        StandingPayments x = new StandingPayments();
        Due.is("18: what below", x.count(-1), -2);
        Due.is("18: what above", x.count(15), -2);
        Due.is("18: far off", x.count(Integer.MAX_VALUE), -2);
        Due.is("18: far below", x.count(Integer.MIN_VALUE), -2);
        x.account(0, 0);
        x.account(0, 0);
        x.holiday(70, 1);
        x.deposit(0, 100);
        x.order(8, 40, 101, 0, 5, 4);
        x.order(17, 40, 101, 0, 5, 1);
        x.order(8, 1, 101, 0, 45, 0);
        x.stop(2);
        x.order(8, 10, 101, 5, 45, 2);
        x.put('p');
        x.put('1');
        x.set(0, 2);
        x.set(1, 9);
        x.set(2, 8);
        x.set(3, 1);
        x.days(6);
        // The day 0 is a Tuesday: 0 to 3 are business days, 4 and 5 the weekend.
        // Made: two of 40; missed: a third one and that of the account 1; a fourth waits; 5 is skipped.
        int[] wanted = {6, 2, 4, 1, 1, 2, 2, 1, 5, 2, 6, 2, 9, 8, 1};
        for (int what = 0; what < wanted.length; what++) Due.is("18: count " + what, x.count(what), wanted[what]);
        x.days(1);
        Due.is("18: missed one more", x.count(6), 3);
        Due.is("18: two tries more failed", x.count(8), 7);
        Due.is("18: today", x.count(0), 7);
        StandingPayments y = new StandingPayments();
        y.account(0, 0);
        y.order(8, 40, 101, 5, 5, 0);
        y.days(7);
        Due.is("18: waiting", y.count(4), 2);
    }
}
