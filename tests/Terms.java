/** The boundary cases of the section "Terms", up to the orders and their dates: each check names the sentence's words. */
public final class Terms {
    private static final int[] LENGTHS = {31, 28, 31, 30, 31, 30, 31, 31, 30, 31, 30, 31};

    public static void main(String[] args) {
        monthsOfThreeYears();
        businessDays();
        accountsCanPay();
        ordersThatWereEverMade();
        allHows();
        stepsOfDaysAndWeeks();
        daysOfTheMonth();
        lastBusinessDaysOfAllMonths();
        countedFromTheFirstMonth();
        noneBeforeTheFirstDay();
        noneBehindTheLastDay();
        shiftedByTheRules();
        notShiftedWhereThereIsNoDay();
        calendarAsItIs();
        leftOutWhenMade();
        leftOutWhenItGoesOn();
        Due.end();
    }

    private static StandingPayments withAccounts(int accounts) {
        StandingPayments x = new StandingPayments();
        for (int i = 0; i < accounts; i++) x.account(0, 0);
        return x;
    }

    /** A house with some accounts on some day. */
    private static StandingPayments on(int day) {
        StandingPayments x = withAccounts(2);
        for (int left = day; left > 0; left -= 400) x.days(Math.min(left, 400));
        return x;
    }

    private static int startOf(int month) {
        int day = month / 12 * 365;
        for (int m = 0; m < month % 12; m++) day += LENGTHS[m];
        return day;
    }

    /** "three years of 365 days each, with months of 31, 28, 31, .. days; months are numbered from 0 to 35" */
    private static void monthsOfThreeYears() {
        StandingPayments x = new StandingPayments();
        for (int month = 0; month < 36; month++) {
            int start = startOf(month);
            int length = LENGTHS[month % 12];
            Due.is("month of its first day", x.ofDay(start, 1), month);
            Due.is("first day", x.ofDay(start, 2), 1);
            Due.is("month of its last day", x.ofDay(start + length - 1, 1), month);
            Due.is("last day", x.ofDay(start + length - 1, 2), length);
        }
        Due.is("the last of all days", startOf(35) + 30, 1094);
        Due.is("a year has 365 days", x.ofDay(364, 1) * 100 + x.ofDay(365, 1), 1112);
        Due.is("no year has 366", x.ofDay(729, 1) * 100 + x.ofDay(730, 1), 2324);
    }

    /** "A business day is a day from Monday to Friday that is no holiday" */
    private static void businessDays() {
        for (int weekday = 0; weekday < 7; weekday++) {
            StandingPayments x = new StandingPayments();
            x.set(3, weekday);
            for (int day = 0; day < 14; day++) {
                int its = (weekday + day) % 7;
                Due.is("weekday " + its, x.ofDay(day, 0), its);
                Due.is("a business day: " + its, x.ofDay(day, 3), its <= 4 ? 1 : 0);
                x.holiday(day, 1);
                Due.is("no business day: " + its, x.ofDay(day, 3), 0);
                x.holiday(day, 0);
            }
            Due.is("the last day's weekday", x.ofDay(1094, 0), (weekday + 1094) % 7);
        }
    }

    /** "It can pay an amount if its balance and its overdraft together are at least the amount." */
    private static void accountsCanPay() {
        for (int beside = -1; beside <= 1; beside++) {
            StandingPayments x = new StandingPayments();
            x.account(400, 0);
            x.deposit(0, 300);
            x.order(8, 700 + beside, 101, 0, 5, 1);
            x.days(1);
            Due.is("pays " + (700 + beside), x.count(5), beside <= 0 ? 1 : 0);
            Due.is("fails " + (700 + beside), x.count(8), beside <= 0 ? 0 : 1);
            // "a balance .. can be below 0"
            Due.is("balance behind " + (700 + beside), x.money(0, 0), beside <= 0 ? -400 - beside : 50);
        }
        StandingPayments x = new StandingPayments();
        x.account(1000000, 1000000);
        x.order(8, 1000000, 101, 0, 5, 1);
        x.days(1);
        Due.is("the greatest overdraft pays the greatest amount", x.money(0, 0), -1000000);
    }

    /** "There are up to 16 orders (all that were ever made)." */
    private static void ordersThatWereEverMade() {
        StandingPayments x = withAccounts(1);
        for (int i = 0; i < 15; i++) Due.is("order " + i, x.order(8, 1, 101, 0, 5, 1), i);
        x.days(1);
        for (int i = 0; i < 15; i++) Due.is("over " + i, x.ofOrder(i, 10), 2);
        Due.is("orders that are over count", x.order(8, 1, 101, 1, 5, 1), 15);
        Due.is("too many, all but one over", x.order(8, 1, 101, 1, 5, 1), -4);
        x.undo();
        Due.is("one that was undone was not made", x.order(8, 1, 101, 1, 5, 1), 15);
        StandingPayments y = withAccounts(8);
        Due.is("from the last to outside", y.order(9 * 7 + 8, 1, 101, 0, 5, 0), 0);
        Due.is("to the last", y.order(7, 1, 101, 0, 5, 0), 1);
        Due.is("the last to itself", y.order(9 * 7 + 7, 1, 101, 0, 5, 0), -1);
        Due.is("no account 8 pays", y.order(9 * 8, 1, 101, 0, 5, 0), -1);
        Due.is("nor to outside", y.order(9 * 8 + 8, 1, 101, 0, 5, 0), -1);
        Due.is("nor any above", y.order(9 * 9, 1, 101, 0, 5, 0), -1);
    }

    /** "how: 10 * rule (0 to 4) + priority (0 to 9)", "many: 0 to 99", "amount: 1 to 1000000" */
    private static void allHows() {
        for (int rule = 0; rule <= 4; rule++) {
            StandingPayments x = withAccounts(1);
            for (int priority = 0; priority <= 9; priority++) {
                Due.is("made", x.order(8, 1 + priority, 101, 0, 10 * rule + priority, 10 * rule + priority), priority);
                Due.is("rule of " + rule + priority, x.ofOrder(priority, 7), rule);
                Due.is("priority of " + rule + priority, x.ofOrder(priority, 8), priority);
                Due.is("left of " + rule + priority, x.ofOrder(priority, 9), 10 * rule + priority);
            }
        }
        for (int kind = 0; kind <= 3; kind++) {
            StandingPayments x = withAccounts(1);
            int[][] dates = {{1, 1}, {1, 31}, {12, 1}, {12, 31}, {9, 10}};
            for (int i = 0; i < dates.length; i++) {
                Due.is("made", x.order(8, 1, 10000 * kind + 100 * dates[i][0] + dates[i][1], 0, 0, 99), i);
                Due.is("kind", x.ofOrder(i, 3), kind);
                Due.is("step", x.ofOrder(i, 4), dates[i][0]);
                Due.is("day d", x.ofOrder(i, 5), dates[i][1]);
            }
            int of = 10000 * kind;
            int[] bad = {of, of + 1, of + 31, of + 100, of + 132, of + 199, of + 1200, of + 1232, of + 1301, of + 9931};
            for (int wrong : bad) Due.is("bad dates " + wrong, x.order(8, 1, wrong, 0, 0, 0), -2);
        }
        StandingPayments x = withAccounts(1);
        int[] bad = {-1, -101, -9899, 40000, 40101, 41231, 50101, 100101};
        for (int wrong : bad) Due.is("bad dates " + wrong, x.order(8, 1, wrong, 0, 0, 0), -2);
    }

    /** "kind 0: the first day, and each n days later; kind 1: the first day, and each 7 * n days later" */
    private static void stepsOfDaysAndWeeks() {
        for (int n = 1; n <= 12; n++) {
            StandingPayments x = withAccounts(1);
            x.order(8, 1, 100 * n + 1, 3, 5, 0);
            x.order(8, 1, 10000 + 100 * n + 1, 3, 5, 0);
            for (int k = 0; k < 13; k++) {
                Due.is("each " + n + " days", x.dateOf(0, k), 3 + n * k);
                Due.is("each " + n + " weeks", x.dateOf(1, k), 3 + 7 * n * k);
            }
        }
    }

    /** "the day d of the month (the last day of the month, if it has fewer)" */
    private static void daysOfTheMonth() {
        for (int d = 1; d <= 31; d += d == 1 ? 26 : 1) {
            StandingPayments x = withAccounts(1);
            x.order(8, 1, 20100 + d, 0, 5, 0);
            for (int month = 0; month < 36; month++) {
                int day = startOf(month) + Math.min(d, LENGTHS[month % 12]) - 1;
                Due.is("day " + d + " of the month " + month, x.dateOf(0, month), day);
            }
            Due.is("no month 36", x.dateOf(0, 36), -6);
        }
    }

    /** "the last business day of the month (its last day, if it has none)" */
    private static void lastBusinessDaysOfAllMonths() {
        for (int weekday = 0; weekday < 7; weekday++) {
            StandingPayments x = withAccounts(1);
            x.set(3, weekday);
            x.order(8, 1, 30101, 0, 5, 0);
            for (int month = 0; month < 36; month++) {
                int day = startOf(month) + LENGTHS[month % 12] - 1;
                while ((day + weekday) % 7 > 4) day--;
                Due.is("last business day of the month " + month, x.dateOf(0, month), day);
            }
            Due.is("no month 36", x.dateOf(0, 36), -6);
        }
        // February of the second year begins on a Thursday: each of its 20 business days a holiday, and back again.
        StandingPayments x = withAccounts(1);
        x.order(8, 1, 30101, 396, 5, 0);
        Due.is("its last day is a business day", x.dateOf(0, 0), 423);
        int end = 424;
        for (int day = 423; day >= 396; day--) {
            if (day % 7 > 4) continue;
            Due.is("the last business day before " + end, x.dateOf(0, 0), day);
            x.holiday(day, 1);
            end = day;
        }
        Due.is("20 holidays", x.count(3), 20);
        Due.is("none: its last day", x.dateOf(0, 0), 423);
        Due.is("not the last one before the month", x.ofOrder(0, 15), 423);
    }

    /** "counted from that month, also if it has no occurrence" */
    private static void countedFromTheFirstMonth() {
        StandingPayments x = withAccounts(1);
        x.order(8, 1, 20510, 14, 5, 0);
        int[] months = {5, 10, 15, 20, 25, 30, 35};
        for (int k = 0; k < months.length; k++) {
            Due.is("the 10th, each 5 months from January", x.dateOf(0, k), startOf(months[k]) + 9);
        }
        Due.is("none behind December", x.dateOf(0, 7), -6);
        // The last business day of March is the Friday 88, before the first day 89.
        x.order(8, 1, 30501, 89, 5, 0);
        Due.is("last business days, each 5 months from March", x.dateOf(1, 0), 242);
        Due.is("then January", x.dateOf(1, 1), 365 + 30);
    }

    /** "Those before the first day .. are none." */
    private static void noneBeforeTheFirstDay() {
        for (int beside = -1; beside <= 1; beside++) {
            StandingPayments x = withAccounts(1);
            x.order(8, 1, 20112, 11 + beside, 5, 0);
            Due.is("the 12th from the day " + (11 + beside), x.ofOrder(0, 15), beside <= 0 ? 11 : 42);
            x.order(8, 1, 30101, 88 + beside, 5, 0);
            Due.is("the last business day 88 from " + (88 + beside), x.ofOrder(1, 15), beside <= 0 ? 88 : 119);
            x.order(8, 1, 20131, 58 + beside, 5, 0);
            Due.is("the last of February from " + (58 + beside), x.ofOrder(2, 15), beside <= 0 ? 58 : 89);
        }
        // It is the nominal day that counts: the date may be before the first day.
        StandingPayments x = withAccounts(1);
        x.order(8, 1, 101, 5, 25, 0);
        Due.is("nominal on the first day", x.ofOrder(0, 15), 5);
        Due.is("its date before it", x.dateOf(0, 0), 4);
        x.days(5);
        Due.is("due before the first day", x.ofPayment(0, 2) * 10 + x.ofPayment(0, 3), 54);
    }

    /** "and those that would be later than the day 1094, are none" */
    private static void noneBehindTheLastDay() {
        int[][] rows = {
            {101, 1094, 1}, {101, 1093, 2}, {1201, 1082, 2}, {1201, 1083, 1}, {10101, 1087, 2}, {10101, 1088, 1},
            {11201, 1010, 2}, {11201, 1011, 1}, {20131, 1064, 1}, {20131, 1063, 2}, {20131, 1094, 1}, {20130, 1094, 0},
            {21201, 699, 2}, {21201, 730, 1}, {30101, 1094, 1}, {30101, 1034, 2}, {31201, 729, 2}, {31201, 730, 1}};
        for (int[] row : rows) {
            StandingPayments x = withAccounts(1);
            x.order(8, 1, row[0], row[1], 5, 0);
            int found = 0;
            while (found < 4 && x.dateOf(0, found) != -6) found++;
            Due.is("occurrences of " + row[0] + " from " + row[1], found, row[2]);
            Due.is("a next one of " + row[0], x.ofOrder(0, 15) == -6 ? 0 : 1, Math.min(row[2], 1));
        }
        StandingPayments x = withAccounts(1);
        x.holiday(1094, 1);
        x.order(8, 1, 30101, 1094, 5, 0);
        Due.is("the last business day of all is the 1093", x.dateOf(0, 0), -6);
    }

    /** The rules 0 to 4, on a weekend and over the end of a month, and on a business day. */
    private static void shiftedByTheRules() {
        int[][] rows = {
            // nominal day, its dates by the rules 0 to 4; the day 89 is the Saturday at the end of March
            {4, 4, 4, 4, 4, 4}, {5, 5, 7, 4, 7, 5}, {6, 6, 7, 4, 7, 6}, {7, 7, 7, 7, 7, 7},
            {89, 89, 91, 88, 88, 89}, {90, 90, 91, 88, 91, 90}, {1092, 1092, 1092, 1092, 1092, 1092},
            // the Saturday 362 is followed by the Monday 364 in the same month
            {362, 362, 364, 361, 364, 362}};
        for (int[] row : rows) {
            for (int rule = 0; rule <= 4; rule++) {
                StandingPayments x = withAccounts(1);
                x.order(8, 1, 101, row[0], 10 * rule + 5, 0);
                Due.is("rule " + rule + " on " + row[0], x.dateOf(0, 0), row[1 + rule]);
                Due.is("nominal by rule " + rule, x.ofOrder(0, 15), row[0]);
                Due.is("shift() by rule " + rule, x.shift(row[0], rule), row[1 + rule]);
            }
        }
        // Over the end of a year: the months 11 and 12.
        StandingPayments x = new StandingPayments();
        x.holiday(364, 1);
        Due.is("to the next year", x.shift(364, 1), 365);
        Due.is("but not by rule 3", x.shift(364, 3), 361);
        x.holiday(361, 1);
        Due.is("over a weekend and a holiday", x.shift(364, 3), 360);
        // "rule 4: not, but the occurrence is skipped"
        StandingPayments y = withAccounts(1);
        y.order(8, 1, 101, 4, 45, 4);
        y.days(8);
        Due.is("made or waits", y.count(4) + y.count(5), 2);
        Due.is("skipped", y.count(7), 2);
    }

    /** "If there is no such day from 0 to 1094, it is not shifted." */
    private static void notShiftedWhereThereIsNoDay() {
        StandingPayments x = withAccounts(1);
        x.set(3, 5);
        x.order(8, 1, 101, 0, 25, 1);
        Due.is("no day before the Saturday 0", x.dateOf(0, 0), 0);
        Due.is("nor before the Sunday 1", x.shift(1, 2), 1);
        Due.is("one behind it", x.shift(0, 1) * 10 + x.shift(0, 3), 22);
        x.days(1);
        Due.is("due on the day 0", x.ofPayment(0, 3), 0);
        StandingPayments y = withAccounts(1);
        y.set(3, 3);
        Due.is("the day 1094 is a Saturday", y.ofDay(1094, 0), 5);
        Due.is("none behind the last day", y.shift(1094, 1), 1094);
        Due.is("the last one before, if there is no next one", y.shift(1094, 3), 1093);
        Due.is("the one before", y.shift(1094, 2), 1093);
        y.order(8, 1, 101, 1094, 15, 0);
        y.order(8, 1, 101, 1094, 35, 0);
        Due.is("not shifted", y.dateOf(0, 0), 1094);
        Due.is("shifted back", y.dateOf(1, 0), 1093);
        y.holiday(1093, 1);
        Due.is("shifted back further", y.dateOf(1, 0), 1092);
    }

    /** "Dates follow the calendar as it is when they are asked for." */
    private static void calendarAsItIs() {
        StandingPayments x = withAccounts(1);
        x.order(8, 1, 20111, 0, 15, 0);
        Due.is("the Thursday 10", x.dateOf(0, 0), 10);
        x.holiday(10, 1);
        Due.is("a holiday then", x.dateOf(0, 0), 11);
        x.set(3, 1);
        Due.is("the Friday 10 then", x.dateOf(0, 0), 13);
        Due.is("the nominal day stays", x.ofOrder(0, 15), 10);
        x.holiday(10, 0);
        Due.is("no holiday any more", x.dateOf(0, 0), 10);
        // What waits keeps the nominal day and the day on which it became due.
        x.days(11);
        x.holiday(10, 1);
        Due.is("nominal day of the payment", x.ofPayment(0, 2), 10);
        Due.is("due day of the payment", x.ofPayment(0, 3), 10);
        StandingPayments y = withAccounts(1);
        y.order(8, 1, 30101, 0, 5, 0);
        y.holiday(30, 1);
        y.days(30);
        Due.is("the last business day is the 29 now", y.ofPayment(0, 2), 29);
        y.holiday(30, 0);
        Due.is("what waits keeps it", y.ofPayment(0, 2), 29);
        Due.is("and January does not come again", y.ofOrder(0, 15), 58);
        // A first month without an occurrence has one by the calendar as it is later, and the other way round.
        StandingPayments w = withAccounts(1);
        w.holiday(30, 1);
        w.order(8, 1, 30101, 30, 5, 0);
        Due.is("the 29 is before the first day", w.dateOf(0, 0), 58);
        w.holiday(30, 0);
        Due.is("the 30 is not", w.dateOf(0, 0), 30);
        Due.is("nor its nominal day", w.ofOrder(0, 15), 30);
        w.set(3, 4);
        // The 30 and the 58 are Sundays then.
        Due.is("the 28 is before the first day", w.dateOf(0, 0), 56);
        // A calendar that changes behind a date's back: it is due on the next day that passes.
        StandingPayments z = withAccounts(1);
        z.holiday(8, 1);
        z.order(8, 1, 20109, 0, 15, 0);
        Due.is("the 9 for the 8", z.dateOf(0, 0), 9);
        z.days(9);
        z.holiday(8, 0);
        Due.is("the 8, which is before today", z.dateOf(0, 0), 8);
        Due.is("it is not left out by that", z.ofOrder(0, 15), 8);
        z.days(1);
        Due.is("due behind its date", z.ofPayment(0, 3), 9);
    }

    /** "When an order is made .. its occurrences whose dates are before today are left out" */
    private static void leftOutWhenMade() {
        StandingPayments friday = on(4);
        friday.order(8, 1, 101, 5, 25, 1);
        Due.is("the date is today: not left out", friday.ofOrder(0, 15), 5);
        friday.days(1);
        Due.is("due today", friday.ofOrder(0, 14), 1);
        StandingPayments saturday = on(5);
        saturday.order(8, 1, 101, 5, 25, 1);
        Due.is("the date was yesterday: two left out", saturday.ofOrder(0, 15), 7);
        Due.is("not taken from what is left", saturday.ofOrder(0, 9), 1);
        saturday.days(3);
        Due.is("made once", saturday.ofOrder(0, 14), 1);
        Due.is("and over", saturday.ofOrder(0, 10), 2);
        StandingPayments sunday = on(6);
        sunday.order(8, 1, 10301, 6, 25, 0);
        Due.is("a step of three weeks goes on from there", sunday.ofOrder(0, 15), 27);
        sunday.order(8, 1, 101, 6, 35, 0);
        Due.is("rule 3 shifts it to Monday", sunday.ofOrder(1, 15), 6);
        // The 31st of March is a Saturday; by rule 3 its date is the Friday before.
        StandingPayments march = on(89);
        march.order(8, 1, 20131, 89, 35, 1);
        Due.is("March is left out", march.ofOrder(0, 15), 119);
        march.order(8, 1, 20131, 89, 5, 1);
        Due.is("but not without a shift", march.ofOrder(1, 15), 89);
    }

    /** "and when it goes on .. from the next one on up to the first whose date is not" */
    private static void leftOutWhenItGoesOn() {
        for (int day = 0; day <= 12; day++) {
            StandingPayments x = withAccounts(1);
            x.order(8, 1, 101, 0, 5, 1);
            x.order(8, 1, 101, 0, 15, 0);
            x.order(8, 1, 101, 0, 45, 2);
            for (int order = 0; order < 3; order++) x.stop(order);
            if (day > 0) x.days(day);
            Due.is("all before " + day, x.goOn(0), day);
            Due.is("the next is today", x.ofOrder(0, 15), day);
            Due.is("not taken from the one left", x.ofOrder(0, 9), 1);
            // Saturdays and Sundays have their dates on Mondays.
            int dates = day <= 5 ? day : day <= 7 ? 5 : day;
            Due.is("by their dates, before " + day, x.goOn(1), dates);
            Due.is("skipped ones are left out too", x.goOn(2), day);
            Due.is("and are not skipped", x.ofOrder(2, 13), 0);
            Due.is("nor taken", x.ofOrder(2, 9), 2);
            Due.is("once only", x.goOn(0), -5);
        }
        // As many as there are.
        StandingPayments all = withAccounts(1);
        all.order(8, 1, 101, 0, 5, 99);
        all.stop(0);
        for (int left = 1094; left > 0; left -= 400) all.days(Math.min(left, 400));
        Due.is("all days but the last", all.goOn(0), 1094);
        Due.is("the last day is left", all.dateOf(0, 0), 1094);
        // What was due before the stop is not left out again, and not counted.
        StandingPayments x = withAccounts(1);
        x.order(8, 1, 301, 0, 5, 9);
        x.days(4);
        x.stop(0);
        x.days(8);
        Due.is("6 and 9", x.goOn(0), 2);
        Due.is("seven left", x.ofOrder(0, 9), 7);
        Due.is("the next one", x.dateOf(0, 0), 12);
        Due.is("so many dates", x.dateOf(0, 6) * 10 + x.dateOf(0, 7), 300 - 6);
    }
}
