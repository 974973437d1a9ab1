/** Promises 19 to 24: dates, shifts and forecasts; nothing changes by them. */
public final class WhatIf {
    public static void main(String[] args) {
        promise19DateOf();
        promise19LastBusinessDays();
        promise20Shift();
        promise21BalanceIn();
        promise22FirstFailure();
        promise23LeastDeposit();
        promise24Ahead();
        Due.end();
    }

    private static void promise19DateOf() {
        StandingPayments x = new StandingPayments();
        x.account(0, 0);
        x.order(8, 1, 101, 0, 15, 0);
        x.order(8, 1, 10301, 5, 25, 3);
        x.order(8, 1, 20131, 0, 35, 99);
        x.order(8, 1, 101, 5, 45, 0);
        Due.is("19: no order", x.dateOf(4, 0), -1);
        Due.is("19: no order below", x.dateOf(-1, -1), -1);
        Due.is("19: k below", x.dateOf(0, -1), -2);
        Due.is("19: k above", x.dateOf(0, 100), -2);
        Due.is("19: the last k", x.dateOf(0, 99), 99);
        Due.is("19: a Saturday to Monday", x.dateOf(0, 5), 7);
        Due.is("19: a Sunday to Monday", x.dateOf(0, 6), 7);
        Due.is("19: a Saturday to Friday", x.dateOf(1, 0), 4);
        Due.is("19: three weeks later", x.dateOf(1, 1), 25);
        Due.is("19: six weeks later", x.dateOf(1, 2), 46);
        Due.is("19: none by the payments left", x.dateOf(1, 3), -6);
        // 31 Jan, 28 Feb, 31 Mar (Sat, so 88), 30 Apr, 31 May, 30 Jun (Sat, so 179).
        int[] lasts = {30, 58, 88, 119, 150, 179};
        for (int k = 0; k < lasts.length; k++) Due.is("19: last " + k, x.dateOf(2, k), lasts[k]);
        Due.is("19: the last month", x.dateOf(2, 35), 1094);
        Due.is("19: none by its days", x.dateOf(2, 36), -6);
        Due.is("19: one to be skipped", x.dateOf(3, 0), 5);
        Due.is("19: one not to be skipped", x.dateOf(3, 2), 7);
        x.days(3);
        Due.is("19: from the next one on", x.dateOf(0, 0), 3);
        x.stop(0);
        x.days(2);
        Due.is("19: of a stopped one", x.dateOf(0, 0), 3);
        Due.is("19: two taken", x.dateOf(1, 2), -6);
        Due.is("19: the first was on the 4", x.dateOf(1, 0), 25);
        x.order(8, 1, 101, 5, 5, 1);
        x.days(1);
        Due.is("19: over", x.dateOf(4, 0), -6);
        Due.is("19: a bad k first", x.dateOf(4, 100), -2);
        Due.is("19: nothing changed", x.count(10), 6);
        x.order(8, 1, 101, 1090, 5, 0);
        Due.is("19: the last day of all", x.dateOf(5, 4), 1094);
        Due.is("19: none behind it", x.dateOf(5, 5), -6);
        x.order(8, 1, 11201, 6, 5, 0);
        Due.is("19: twelve weeks each", x.dateOf(6, 12), 6 + 12 * 84);
        Due.is("19: none too late", x.dateOf(6, 13), -6);
    }

    private static void promise19LastBusinessDays() {
        StandingPayments x = new StandingPayments();
        x.account(0, 0);
        for (int rule = 0; rule <= 4; rule++) x.order(8, 1, 30101, 0, 10 * rule + 5, 0);
        Due.is("19: March ends on a Saturday", x.dateOf(0, 2), 88);
        // All business days of February, which are 20, are holidays: its last day stands, shifted by the rules.
        for (int day = 31; day <= 58; day++) if (day % 7 < 5) x.holiday(day, 1);
        Due.is("19: 20 holidays", x.count(3), 20);
        int[] february = {58, 59, 30, 30, 58};
        for (int rule = 0; rule <= 4; rule++) Due.is("19: rule " + rule, x.dateOf(rule, 1), february[rule]);
        x.holiday(31, 0);
        Due.is("19: the first of February is the only one", x.dateOf(0, 1), 31);
        x.holiday(31, 1);
        x.days(32);
        // January by all; February on the 30 by the rules 2 and 3.
        int[] nexts = {58, 58, 88, 88, 58};
        for (int rule = 0; rule <= 4; rule++) Due.is("19: next of " + rule, x.ofOrder(rule, 15), nexts[rule]);
        x.days(27);
        Due.is("19: February is skipped", x.ofOrder(4, 13), 1);
        // Since the 30 no business day came: 30, 30, 30 58, 30 58, 30 and then 58 of the rule 0 wait.
        Due.is("19: all of them wait", x.count(4), 8);
        Due.is("19: due on the 30", x.ofPayment(3, 3), 30);
        Due.is("19: of the 58", x.ofPayment(3, 2), 58);
        Due.is("19: February waits", x.ofPayment(7, 2), 58);
        x.order(8, 1, 31201, 89, 5, 0);
        // The day 89 of the second year is a Sunday.
        Due.is("19: none in the first month", x.dateOf(5, 0), 365 + 87);
    }

    private static void promise20Shift() {
        StandingPayments x = new StandingPayments();
        Due.is("20: day below", x.shift(-1, 0), -2);
        Due.is("20: day above", x.shift(1095, 0), -2);
        Due.is("20: rule below", x.shift(0, -1), -2);
        Due.is("20: rule above", x.shift(0, 5), -2);
        Due.is("20: far off", x.shift(Integer.MAX_VALUE, 1), -2);
        Due.is("20: far below", x.shift(Integer.MIN_VALUE, 2), -2);
        int[] saturday = {5, 7, 4, 7, 5};
        int[] endOfMarch = {89, 91, 88, 88, 89};
        int[] friday = {4, 4, 4, 4, 4};
        int[] firstOfApril = {90, 91, 88, 91, 90};
        for (int rule = 0; rule <= 4; rule++) {
            Due.is("20: Saturday, " + rule, x.shift(5, rule), saturday[rule]);
            Due.is("20: end of March, " + rule, x.shift(89, rule), endOfMarch[rule]);
            Due.is("20: Friday, " + rule, x.shift(4, rule), friday[rule]);
            Due.is("20: April, " + rule, x.shift(90, rule), firstOfApril[rule]);
        }
        x.holiday(0, 1);
        x.holiday(1, 1);
        for (int day = 1092; day <= 1094; day++) x.holiday(day, 1);
        int[] first = {0, 2, 0, 2, 0};
        int[] last = {1094, 1094, 1089, 1089, 1094};
        for (int rule = 0; rule <= 4; rule++) {
            Due.is("20: first day, " + rule, x.shift(0, rule), first[rule]);
            Due.is("20: last day, " + rule, x.shift(1094, rule), last[rule]);
        }
        Due.is("20: none before the 1 either", x.shift(1, 2), 1);
        x.set(3, 5);
        Due.is("20: by the weekday", x.shift(7, 1), 9);
    }

    private static void promise21BalanceIn() {
        StandingPayments x = new StandingPayments();
        x.account(500, 0);
        x.account(0, 100);
        x.feed(0, 1);
        x.deposit(1, 900);
        x.order(8, 400, 10101, 0, 5, 0);
        Due.is("21: no account", x.balanceIn(2, 1), -1);
        Due.is("21: no account below", x.balanceIn(-1, 0), -1);
        Due.is("21: days below", x.balanceIn(0, 0), -2);
        Due.is("21: days above", x.balanceIn(0, 401), -2);
        Due.is("21: a day", x.balanceIn(0, 1), -400);
        Due.is("21: the feeder then", x.balanceIn(1, 8), 900 - 300);
        long[] told = {x.balanceIn(0, 8), x.balanceIn(0, 31), x.balanceIn(0, 400), x.balanceIn(1, 400)};
        Due.is("21: nothing changed", x.count(10), 5);
        Due.is("21: no day passed", x.count(0), 0);
        Due.is("21: no balance changed", x.money(1, 0), 900);
        Due.is("21: nothing waits", x.count(4), 0);
        x.days(8);
        Due.is("21: as told for 8", x.money(0, 0), told[0]);
        x.days(23);
        Due.is("21: as told for 31", x.money(0, 0), told[1]);
        Due.is("21: as told from here", x.balanceIn(0, 369), told[2]);
        x.days(369);
        Due.is("21: as told for 400", x.money(0, 0), told[2]);
        Due.is("21: the feeder as told", x.money(1, 0), told[3]);
        x.days(400);
        x.days(290);
        long end = x.balanceIn(0, 400);
        Due.is("21: as on the last day", x.balanceIn(0, 4), end);
        x.days(4);
        Due.is("21: the last day", x.money(0, 0), end);
        Due.is("21: behind it", x.balanceIn(0, 1), end);
    }

    private static void promise22FirstFailure() {
        StandingPayments x = new StandingPayments();
        for (int i = 0; i < 3; i++) x.account(0, 0);
        Due.is("22: none", x.firstFailure(-6), -6);
        x.deposit(0, 100);
        x.deposit(1, 50);
        x.order(8, 10, 10101, 5, 15, 0);
        x.order(17, 50, 10101, 2, 5, 2);
        Due.is("22: no account", x.firstFailure(3), -1);
        Due.is("22: no account below", x.firstFailure(-1), -1);
        Due.is("22: no account far below", x.firstFailure(-7), -1);
        for (int none = -2; none >= -5; none--) Due.is("22: no account " + none, x.firstFailure(none), -1);
        Due.is("22: ten weeks are paid", x.firstFailure(0), 7 + 7 * 10);
        Due.is("22: one is paid", x.firstFailure(1), 9);
        Due.is("22: no order of it", x.firstFailure(2), -6);
        Due.is("22: any", x.firstFailure(-6), 9);
        Due.is("22: nothing changed", x.count(8) + x.count(0), 0);
        Due.is("22: no change", x.count(10), 6);
        // Not beyond the next 400 days: the days 0 to 399.
        StandingPayments y = new StandingPayments();
        y.account(0, 0);
        y.order(8, 1, 101, 400, 5, 0);
        Due.is("22: not in 400 days", y.firstFailure(0), -6);
        y.days(1);
        Due.is("22: on the last of them", y.firstFailure(0), 400);
        // Nor beyond the day 1093, which is the last to pass.
        StandingPayments z = new StandingPayments();
        z.account(0, 0);
        z.days(400);
        z.days(400);
        z.order(8, 1, 101, 1094, 5, 0);
        Due.is("22: the day 1094 does not pass", z.firstFailure(0), -6);
        z.order(8, 1, 101, 1093, 5, 0);
        Due.is("22: the day 1093 does", z.firstFailure(0), 1093);
        Due.is("22: any", z.firstFailure(-6), 1093);
    }

    private static void promise23LeastDeposit() {
        StandingPayments x = new StandingPayments();
        x.account(0, 0);
        x.account(0, 0);
        Due.is("23: no account", x.leastDeposit(2, 1), -1);
        Due.is("23: no account below", x.leastDeposit(-1, 0), -1);
        Due.is("23: days below", x.leastDeposit(0, 0), -2);
        Due.is("23: days above", x.leastDeposit(0, 101), -2);
        Due.is("23: nothing to pay", x.leastDeposit(0, 100), 0);
        x.order(8, 5000, 101, 1, 5, 0);
        Due.is("23: not on the first day", x.leastDeposit(0, 1), 0);
        Due.is("23: one", x.leastDeposit(0, 2), 5000);
        Due.is("23: two", x.leastDeposit(0, 3), 10000);
        // 1 to 4, then 5, 6 and 7 on the Monday.
        Due.is("23: over the weekend", x.leastDeposit(0, 7), 20000);
        Due.is("23: on the Monday", x.leastDeposit(0, 8), 35000);
        Due.is("23: 18 of them", x.leastDeposit(0, 21), 90000);
        Due.is("23: more than that", x.leastDeposit(0, 22), -6);
        Due.is("23: another's tries", x.leastDeposit(1, 100), 0);
        x.deposit(0, 1);
        Due.is("23: one cent helps nothing", x.leastDeposit(0, 3), 10000);
        x.deposit(0, 4999);
        Due.is("23: 5000 less", x.leastDeposit(0, 3), 5000);
        Due.is("23: no change", x.count(10), 5);
        Due.is("23: nothing paid in", x.money(0, 1), 5000);
        StandingPayments y = new StandingPayments();
        y.account(0, 0);
        y.order(8, 4999, 101, 0, 5, 1);
        Due.is("23: a multiple of 5000", y.leastDeposit(0, 1), 5000);
        y.change(0, 5001, 5);
        Due.is("23: the next multiple", y.leastDeposit(0, 1), 10000);
        y.change(0, 100000, 5);
        Due.is("23: the most", y.leastDeposit(0, 1), 100000);
        y.change(0, 100001, 5);
        Due.is("23: above the most", y.leastDeposit(0, 1), -6);
    }

    private static void promise24Ahead() {
        StandingPayments x = new StandingPayments();
        x.account(0, 0);
        x.set(1, 0);
        x.deposit(0, 100);
        x.order(8, 30, 101, 4, 5, 0);
        x.order(8, 1, 101, 4, 49, 6);
        Due.is("24: no order", x.ahead(2, 1, 0), -1);
        Due.is("24: no order below", x.ahead(-1, 0, 9), -1);
        Due.is("24: days below", x.ahead(0, 0, 0), -2);
        Due.is("24: days above", x.ahead(0, 401, 0), -2);
        Due.is("24: what below", x.ahead(0, 1, -1), -2);
        Due.is("24: what above", x.ahead(0, 1, 4), -2);
        // Friday 4: 30 + 1 are made; Monday 7: 1, then 30 and 30 of 5 and 6, but not the one of 7.
        int[] weekend = {1, 0, 0, 2};
        int[] monday = {3, 0, 0, 1};
        int[] wednesday = {3, 1, 0, 2};
        int[] ofOther = {2, 0, 2, 0};
        for (int what = 0; what < 4; what++) {
            Due.is("24: weekend " + what, x.ahead(0, 7, what), weekend[what]);
            Due.is("24: Monday " + what, x.ahead(0, 8, what), monday[what]);
            Due.is("24: Wednesday " + what, x.ahead(0, 10, what), wednesday[what]);
            Due.is("24: the other " + what, x.ahead(1, 8, what), ofOther[what]);
        }
        x.days(7);
        Due.is("24: those that wait now, too", x.ahead(0, 1, 0), 2);
        Due.is("24: skipped in these days only", x.ahead(1, 1, 2), 0);
        Due.is("24: made in these days only", x.ahead(1, 1, 0), 1);
        Due.is("24: nothing changed", x.ofOrder(0, 11), 1);
        Due.is("24: the end of what is left", x.ahead(1, 400, 0), 3);
        Due.is("24: all others are missed", x.ahead(0, 400, 1) > 380 ? 1 : 0, 1);
        x.days(10);
        Due.is("24: missed by now", x.ofOrder(0, 12), 8);
        // That of the 15 is missed on the 17, that of the 16 on the 18.
        Due.is("24: missed in these days only", x.ahead(0, 1, 1), 1);
        Due.is("24: and on the next", x.ahead(0, 2, 1), 2);
        Due.is("24: two wait now", x.ofOrder(0, 14), 2);
        Due.is("24: all that wait then, those of now too", x.ahead(0, 1, 3), 2);
        x.stop(0);
        Due.is("24: of a stopped order", x.ahead(0, 1, 3), 1);
        Due.is("24: nothing waits behind two", x.ahead(0, 2, 3), 0);
        Due.is("24: missed of a stopped order", x.ahead(0, 400, 1), 2);
        // An order that is over has payments that wait, too.
        StandingPayments y = new StandingPayments();
        y.account(0, 0);
        y.set(1, 0);
        y.order(8, 30, 101, 0, 5, 2);
        y.days(2);
        Due.is("24: over", y.ofOrder(0, 10), 2);
        y.deposit(0, 30);
        Due.is("24: one is made", y.ahead(0, 1, 0), 1);
        Due.is("24: one waits", y.ahead(0, 1, 3), 1);
        Due.is("24: and is missed", y.ahead(0, 400, 1), 1);
        Due.is("24: none is skipped", y.ahead(0, 400, 2), 0);
    }
}
