/** The boundary cases of "A day", sentence by sentence: what falls due, sweeps, payments, interest, the last day. */
public final class ADay {
    private static final int[] LENGTHS = {31, 28, 31, 30, 31, 30, 31, 31, 30, 31, 30, 31};

    public static void main(String[] args) {
        todayOrBefore();
        skippedOrDue();
        overByWhatIsLeft();
        overByItsDays();
        stoppedOrdersStay();
        sweepsTheRest();
        sweepsAtMost();
        sweepsWithoutPayments();
        sweepsInOrder();
        businessDaysOnly();
        inWhichOrder();
        failsUpToTries();
        feesBelowTheOverdraft();
        interestBelowZero();
        interestOnTheLastDayOfEachMonth();
        wholeCents();
        lastDay();
        Due.end();
    }

    private static StandingPayments withAccounts(int accounts) {
        StandingPayments x = new StandingPayments();
        for (int i = 0; i < accounts; i++) x.account(0, 0);
        return x;
    }

    private static void pass(StandingPayments x, int days) {
        for (int left = days; left > 0; left -= 400) x.days(Math.min(left, 400));
    }

    /** "as long as the date of its next occurrence is today or before" */
    private static void todayOrBefore() {
        StandingPayments x = withAccounts(1);
        x.order(8, 1, 101, 3, 15, 4);
        x.order(8, 1, 101, 5, 15, 4);
        x.days(3);
        Due.is("not before its date", x.count(4), 0);
        x.days(1);
        Due.is("on its date", x.count(4), 1);
        x.days(3);
        Due.is("no date on the weekend", x.ofOrder(0, 14) * 10 + x.ofOrder(1, 14), 20);
        x.days(1);
        // Of 0 that of the 3 is missed, that of the 4 waits; on the Monday those of 5 and 6, and of 1 those of 5, 6, 7.
        Due.is("all of them on the Monday", x.ofOrder(1, 14), 3);
        Due.is("one missed, three wait", x.ofOrder(0, 12) * 10 + x.ofOrder(0, 14), 13);
        for (int i = 1; i < 6; i++) Due.is("due on the Monday", x.ofPayment(i, 3), 7);
        // Of one day by their orders, and of one order by their nominal days.
        int[] orders = {0, 0, 0, 1, 1, 1};
        int[] days = {4, 5, 6, 5, 6, 7};
        for (int i = 0; i < 6; i++) {
            Due.is("order of " + i, x.ofPayment(i, 0), orders[i]);
            Due.is("nominal day of " + i, x.ofPayment(i, 2), days[i]);
        }
    }

    /** "this occurrence is skipped (rule 4, if its nominal day is no business day) .. one of the payments that are left" */
    private static void skippedOrDue() {
        StandingPayments x = withAccounts(1);
        x.holiday(3, 1);
        x.order(8, 1, 101, 2, 45, 5);
        int[] left = {5, 5, 5, 4, 3, 2, 1, 0};
        int[] skipped = {0, 0, 0, 0, 1, 1, 2, 3};
        for (int day = 0; day < 7; day++) {
            Due.is("left on " + day, x.ofOrder(0, 9), left[day]);
            Due.is("skipped on " + day, x.ofOrder(0, 13), skipped[day]);
            Due.is("goes on on " + day, x.ofOrder(0, 10), 0);
            x.days(1);
        }
        Due.is("none left", x.ofOrder(0, 9), 0);
        Due.is("the last one was skipped", x.ofOrder(0, 13), 3);
        Due.is("and the order is over", x.ofOrder(0, 10), 2);
        Due.is("two were due", x.ofOrder(0, 11) + x.ofOrder(0, 12) + x.ofOrder(0, 14), 2);
    }

    /** "An order without payments left (if it has an end) .. is over then (not before a day passes)." */
    private static void overByWhatIsLeft() {
        for (int many = 1; many <= 99; many += 49) {
            StandingPayments x = withAccounts(1);
            x.order(8, 1, 101, 0, 5, many);
            if (many > 1) x.days(many - 1);
            Due.is("one left of " + many, x.ofOrder(0, 9), 1);
            Due.is("it goes on", x.ofOrder(0, 10), 0);
            Due.is("a next one", x.ofOrder(0, 15), many - 1);
            x.days(1);
            Due.is("over behind " + many, x.ofOrder(0, 10), 2);
            Due.is("no next one", x.ofOrder(0, 15), -6);
            Due.is("no date", x.dateOf(0, 0), -6);
            Due.is("what waits goes on", x.ofOrder(0, 14) > 0 ? 1 : 0, 1);
        }
        StandingPayments x = withAccounts(1);
        x.order(8, 1, 101, 0, 5, 0);
        x.days(150);
        Due.is("without end", x.ofOrder(0, 10), 0);
        Due.is("none are told as left", x.ofOrder(0, 9), 0);
        Due.is("its payments", x.ofOrder(0, 12) + x.ofOrder(0, 14), 150);
    }

    /** "or without a next occurrence, is over then (not before a day passes)" */
    private static void overByItsDays() {
        StandingPayments x = withAccounts(1);
        pass(x, 1050);
        x.order(8, 1, 11201, 1055, 5, 0);
        x.order(8, 1, 20131, 1093, 5, 9);
        x.order(8, 1, 20101, 1070, 5, 9);
        Due.is("none from the first day on", x.ofOrder(2, 15), -6);
        Due.is("no date either", x.dateOf(2, 0), -6);
        Due.is("but it is not over when it is made", x.ofOrder(2, 10), 0);
        Due.is("it can be changed", x.change(2, 5, 5), 1);
        Due.is("9 are left", x.ofOrder(2, 9), 9);
        x.days(1);
        Due.is("over, before its first day", x.ofOrder(2, 10), 2);
        Due.is("none are left", x.ofOrder(2, 9), 0);
        Due.is("no change any more", x.change(2, 5, 5), -5);
        x.days(4);
        Due.is("its last day is today", x.ofOrder(0, 10), 0);
        x.days(1);
        Due.is("over with its last one", x.ofOrder(0, 10), 2);
        x.days(38);
        Due.is("the day 1094 is today, the last one does not come", x.ofOrder(1, 10), 0);
        Due.is("it would be on the day 1094", x.dateOf(1, 0), 1094);
        Due.is("never due", x.ofOrder(1, 14), 0);
    }

    /** "Each order that goes on": one that is stopped takes no occurrence and is not over, whatever comes. */
    private static void stoppedOrdersStay() {
        StandingPayments x = withAccounts(1);
        x.order(8, 1, 21215, 14, 5, 1);
        x.order(8, 1, 20115, 800, 5, 0);
        x.stop(0);
        x.stop(1);
        pass(x, 1094);
        Due.is("stopped", x.ofOrder(0, 10), 1);
        Due.is("stopped", x.ofOrder(1, 10), 1);
        Due.is("its next one is long past", x.ofOrder(0, 15), 14);
        Due.is("left", x.ofOrder(0, 9), 1);
        Due.is("its three are left out", x.goOn(0), 3);
        Due.is("of the other all", x.goOn(1), 10);
        Due.is("goes on without a next one", x.ofOrder(0, 10), 0);
        Due.is("there is none", x.ofOrder(0, 15), -6);
        Due.is("but one is left", x.ofOrder(0, 9), 1);
        Due.is("and it can be stopped", x.stop(0), 0);
        // Nor by a day that passes while there is no next occurrence at all.
        StandingPayments z = withAccounts(1);
        pass(z, 1064);
        z.order(8, 1, 20101, 1065, 5, 7);
        Due.is("stopped before it was over", z.stop(0), 0);
        z.days(1);
        Due.is("stopped, without a next one", z.ofOrder(0, 10) * 10 + z.ofOrder(0, 15), 10 - 6);
        Due.is("none to leave out", z.goOn(0), 0);
        Due.is("goes on", z.ofOrder(0, 10), 0);
        z.days(1);
        Due.is("over now", z.ofOrder(0, 10), 2);
        // What waits of a stopped order is tried on, and can be given up.
        StandingPayments y = withAccounts(1);
        y.order(8, 1, 101, 0, 5, 0);
        y.days(2);
        y.stop(0);
        y.days(1);
        Due.is("what waits is tried", y.ofPayment(0, 4), 2);
        Due.is("and given up", y.giveUp(0), 0);
        Due.is("missed", y.ofOrder(0, 12), 2);
    }

    /** "if the payments that wait for this account are more together than its balance and overdraft, the rest is moved" */
    private static void sweepsTheRest() {
        for (int beside = -1; beside <= 1; beside++) {
            StandingPayments x = new StandingPayments();
            x.account(300, 0);
            x.account(0, 0);
            x.feed(0, 1);
            x.deposit(0, 200);
            x.deposit(1, 1000);
            x.order(8, 400, 101, 0, 5, 1);
            x.order(8, 100 + beside, 101, 0, 5, 1);
            x.days(1);
            int rest = Math.max(0, beside);
            Due.is("got by sweeps", x.money(0, 4), rest);
            Due.is("gave by sweeps", x.money(1, 5), rest);
            Due.is("balance of the feeder", x.money(1, 0), 1000 - rest);
            Due.is("both were made", x.count(5), 2);
            Due.is("balance", x.money(0, 0), -300 + Math.max(0, -beside));
        }
        // What it gave in several sweeps is added up.
        StandingPayments x = withAccounts(2);
        x.feed(0, 1);
        x.deposit(1, 1000);
        x.order(8, 70, 101, 0, 5, 3);
        x.days(3);
        Due.is("three sweeps", x.money(0, 4), 210);
        Due.is("given", x.money(1, 5), 210);
        Due.is("left", x.money(1, 0), 790);
        Due.is("no sweep is a payment", x.money(1, 2) + x.money(0, 3), 0);
    }

    /** "but at most the feeder's balance less what it keeps (nothing, if this is not above 0)" */
    private static void sweepsAtMost() {
        for (int above = -2; above <= 12; above++) {
            StandingPayments x = new StandingPayments();
            x.account(0, 0);
            x.account(500, 90);
            x.set(0, 9);
            x.feed(0, 1);
            x.deposit(1, 90 + above);
            x.order(8, 10, 101, 0, 5, 1);
            x.days(1);
            int moved = Math.min(10, Math.max(0, above));
            Due.is("moved of " + above, x.money(0, 4), moved);
            Due.is("the feeder has", x.money(1, 0), 90 + above - moved);
            Due.is("made with " + above, x.count(5), above >= 10 ? 1 : 0);
        }
        // A feeder below 0 gives nothing, although it has an overdraft and keeps nothing.
        StandingPayments x = new StandingPayments();
        x.account(0, 0);
        x.account(1000, 0);
        x.feed(0, 1);
        x.order(17, 100, 101, 0, 5, 1);
        x.order(8, 10, 101, 1, 5, 1);
        x.days(2);
        Due.is("nothing from below 0", x.money(1, 5), 0);
        Due.is("so it failed", x.count(8), 1);
        x.deposit(1, 100);
        x.days(1);
        Due.is("nothing from 0", x.money(1, 5), 0);
        x.deposit(1, 1);
        x.days(1);
        Due.is("one cent from 1", x.money(1, 5), 1);
    }

    /** "(also if nothing waits, and the balance and the overdraft are below 0 together)", on weekends too */
    private static void sweepsWithoutPayments() {
        for (int fee = 99; fee <= 101; fee++) {
            StandingPayments x = new StandingPayments();
            x.account(100, 0);
            x.account(0, 0);
            x.set(0, 1);
            x.set(1, fee);
            x.set(2, 0);
            x.order(8, 1000, 101, 4, 5, 1);
            x.days(5);
            Due.is("nothing waits", x.count(4), 0);
            Due.is("below 0 by the fee", x.money(0, 0), -fee);
            x.feed(0, 1);
            x.deposit(1, 1000);
            x.days(1);
            Due.is("moved on the Saturday for " + fee, x.money(0, 4), fee - 100 > 0 ? 1 : 0);
            x.feed(0, -6);
            x.order(8, 500, 101, 6, 5, 1);
            x.days(2);
            Due.is("nothing without a feeder", x.money(0, 4), fee - 100 > 0 ? 1 : 0);
        }
        StandingPayments x = withAccounts(2);
        x.feed(0, 1);
        x.deposit(1, 1000);
        x.order(8, 500, 101, 5, 5, 1);
        x.days(6);
        Due.is("moved on the Saturday", x.money(0, 0), 500);
        Due.is("not paid on the Saturday", x.count(4), 1);
        x.days(1);
        Due.is("no more on the Sunday", x.money(0, 4), 500);
        x.days(1);
        Due.is("paid on the Monday", x.money(0, 2), 500);
    }

    /** "For each account with a feeder, in ascending order" */
    private static void sweepsInOrder() {
        // Of two that have one feeder, the lower one is served first.
        StandingPayments x = withAccounts(3);
        x.feed(0, 2);
        x.feed(1, 2);
        x.deposit(2, 150);
        x.order(17, 100, 101, 0, 9, 1);
        x.order(8, 100, 101, 0, 1, 1);
        x.days(1);
        Due.is("the lower one", x.money(0, 4), 100);
        Due.is("the rest for the higher one", x.money(1, 4), 50);
        Due.is("made", x.ofOrder(1, 11) * 10 + x.ofOrder(0, 11), 10);
        // Two that feed each other: 0 takes from 1 first, and 1 then takes it back, as far as it lacks it.
        StandingPayments y = withAccounts(2);
        y.feed(0, 1);
        y.feed(1, 0);
        y.deposit(1, 100);
        y.order(8, 60, 101, 0, 5, 1);
        y.order(17, 70, 101, 0, 5, 1);
        y.days(1);
        Due.is("0 takes 60", y.money(0, 4), 60);
        Due.is("1 lacks 30 then, and takes them back", y.money(1, 4), 30);
        Due.is("so 0 fails", y.ofOrder(0, 11), 0);
        Due.is("and 1 pays", y.ofOrder(1, 11), 1);
        // A chain runs against the order: what 1 gets comes too late for 0.
        StandingPayments z = withAccounts(3);
        z.feed(0, 1);
        z.feed(1, 2);
        z.deposit(2, 100);
        z.order(8, 60, 101, 0, 5, 1);
        z.days(1);
        Due.is("1 lacks nothing of its own", z.money(1, 4), 0);
        Due.is("0 gets nothing", z.money(0, 4), 0);
    }

    /** "Payments, on business days only." */
    private static void businessDaysOnly() {
        StandingPayments x = withAccounts(1);
        x.deposit(0, 100);
        x.holiday(4, 1);
        x.holiday(7, 1);
        x.order(8, 10, 101, 4, 5, 1);
        x.order(8, 1000, 101, 4, 5, 1);
        for (int day = 0; day < 8; day++) {
            x.days(1);
            Due.is("none made up to the day " + day, x.count(5), 0);
            Due.is("none tried up to the day " + day, x.count(8), 0);
            Due.is("no fee up to the day " + day, x.money(0, 6), 0);
        }
        Due.is("both wait", x.count(4), 2);
        x.days(1);
        Due.is("made on the Tuesday", x.count(5), 1);
        Due.is("tried on the Tuesday", x.count(8), 1);
    }

    /** "those with the highest priority first (the order's, as it is now), then .. the longest time, then by their orders" */
    private static void inWhichOrder() {
        for (int enough = 0; enough <= 4; enough++) {
            StandingPayments x = withAccounts(1);
            x.set(1, 0);
            // They wait from the Friday holiday on; in the order: 3 (9), 1 (5, of the 4), 0 (5, of the 5), 2 (0).
            x.holiday(4, 1);
            x.order(8, 10, 101, 5, 5, 1);
            x.order(8, 10, 101, 4, 5, 1);
            x.order(8, 10, 101, 4, 0, 1);
            x.order(8, 10, 101, 6, 9, 1);
            x.order(8, 10, 101, 5, 5, 1);
            if (enough > 0) x.deposit(0, 10 * enough);
            x.days(8);
            int[] rank = {2, 1, 4, 0, 3};
            for (int i = 0; i < 5; i++) {
                Due.is("order " + i + " with " + enough, x.ofOrder(i, 11), rank[i] < enough ? 1 : 0);
            }
        }
        // "who gets it has it at once": only what is paid earlier on the day helps.
        StandingPayments x = withAccounts(2);
        x.deposit(1, 50);
        x.order(8, 50, 101, 0, 5, 1);
        x.order(9, 50, 101, 0, 5, 1);
        x.days(1);
        Due.is("0 was tried before it got anything", x.ofOrder(0, 14), 1);
        Due.is("1 paid it", x.ofOrder(1, 11), 1);
        StandingPayments y = withAccounts(2);
        y.deposit(1, 50);
        y.order(8, 50, 101, 0, 5, 1);
        y.order(9, 50, 101, 0, 6, 1);
        y.days(1);
        Due.is("0 was tried behind it", y.ofOrder(0, 11), 1);
        Due.is("nothing failed", y.count(8), 0);
    }

    /** "if the payment failed TRIES times or more, it is missed" */
    private static void failsUpToTries() {
        for (int tries = 1; tries <= 9; tries++) {
            StandingPayments x = withAccounts(1);
            x.set(0, tries);
            x.set(1, 1);
            x.order(8, 1000, 101, 0, 5, 1);
            int done = 0;
            for (int day = 0; done < tries; day++) {
                Due.is("it waits before the day " + day, day == 0 ? 1 : x.count(4), 1);
                x.days(1);
                if (day % 7 < 5) done++;
                Due.is("failed by " + day, x.count(8), done);
                Due.is("missed by " + day, x.count(6), done == tries ? 1 : 0);
                Due.is("fees by " + day, x.money(0, 6), done);
            }
            Due.is("nothing waits", x.count(4) + x.money(0, 8), 0);
            x.days(10);
            Due.is("no try more", x.count(8), tries);
        }
        // Fewer TRIES than it failed: missed at the next failing try only, and made if it can be.
        StandingPayments x = withAccounts(1);
        x.set(0, 9);
        x.order(8, 1000, 101, 0, 5, 1);
        x.days(4);
        x.set(0, 2);
        Due.is("waits, failed four times", x.ofPayment(0, 4), 4);
        x.save(0);
        x.days(1);
        Due.is("missed at the fifth", x.count(6), 1);
        x.restore(0);
        x.deposit(0, 2000);
        x.days(1);
        Due.is("made at the fifth", x.count(5), 1);
    }

    /** "FEE is taken from the account (also below its overdraft)" */
    private static void feesBelowTheOverdraft() {
        int[] fees = {0, 1, 250, 10000};
        for (int fee : fees) {
            StandingPayments x = new StandingPayments();
            x.account(100, 0);
            x.account(0, 0);
            x.set(1, fee);
            x.order(1, 101, 101, 0, 5, 1);
            x.days(1);
            Due.is("the fee " + fee, x.money(0, 0), -fee);
            x.days(2);
            Due.is("three fees of " + fee, x.money(0, 6), 3 * fee);
            Due.is("far below", x.money(0, 0), -3 * fee);
            Due.is("the getter pays none", x.money(1, 6), 0);
            Due.is("and gets none", x.money(1, 0), 0);
        }
        // A fee can make the next payment of the day fail.
        StandingPayments x = withAccounts(1);
        x.deposit(0, 100);
        x.order(8, 101, 101, 0, 6, 1);
        x.order(8, 100, 101, 0, 5, 1);
        x.days(1);
        Due.is("both failed", x.count(8), 2);
        Due.is("two fees", x.money(0, 0), 100 - 500);
    }

    /** "For each account whose balance is below 0", each day, weekends too */
    private static void interestBelowZero() {
        for (int balance = -1; balance <= 1; balance++) {
            StandingPayments x = new StandingPayments();
            x.account(10, 0);
            x.deposit(0, 5);
            x.order(8, 5 - balance, 101, 5, 15, 1);
            x.days(8);
            Due.is("balance", x.money(0, 0), balance);
            double day = 1 * (double) (120 / 1000.0f) / 365.0;
            double owed = balance < 0 ? day : 0.0;
            Due.is("owed by " + balance, x.owedBits(0), Double.doubleToLongBits(owed));
            x.days(6);
            for (int i = 0; i < 6 && balance < 0; i++) owed += day;
            Due.is("owed over the weekend", x.owedBits(0), Double.doubleToLongBits(owed));
            x.set(2, 0);
            x.days(3);
            Due.is("no more with a rate of 0", x.owedBits(0), Double.doubleToLongBits(owed));
        }
        // The balance behind the day's payments and fees is what counts.
        StandingPayments x = withAccounts(1);
        x.set(2, 1000);
        x.order(8, 1, 101, 0, 5, 1);
        x.days(1);
        Due.is("of the fee on its first day", x.owedBits(0), Double.doubleToLongBits(250 * (double) 1.0f / 365.0));
    }

    /** "On the last day of a month, for each account, whatever its balance is" */
    private static void interestOnTheLastDayOfEachMonth() {
        StandingPayments x = new StandingPayments();
        x.account(1000000, 0);
        x.set(2, 1000);
        x.order(8, 1000000, 101, 0, 5, 1);
        long taken = 0;
        for (int month = 0; month < 36; month++) {
            x.days(LENGTHS[month % 12] - 1);
            Due.is("none before the last day of the month " + month, x.money(0, 7), taken);
            if (month == 35) break;
            x.days(1);
            Due.is("some on the last day of the month " + month, x.money(0, 7) > taken ? 1 : 0, 1);
            taken = x.money(0, 7);
            Due.is("from the balance", x.money(0, 0), -1000000 - taken);
        }
        Due.is("the last day of all does not pass", x.count(0), 1094);
        // Whatever the balance is: below 0, 0 and above.
        for (int balance = -1; balance <= 1; balance++) {
            StandingPayments y = new StandingPayments();
            y.account(1000000, 0);
            y.order(8, 500000, 101, 0, 5, 1);
            y.days(30);
            y.deposit(0, 500000 + balance);
            y.days(1);
            Due.is("taken from " + balance, y.money(0, 7), 4931);
            Due.is("which is " + balance + " less that", y.money(0, 0), balance - 4931);
        }
    }

    /** "the whole cents of the interest that is owed are taken .. and what was taken is owed no more" */
    private static void wholeCents() {
        // 365 cents at a rate of 1 owe one cent a day, exactly.
        for (int first = 0; first <= 1; first++) {
            StandingPayments x = new StandingPayments();
            x.account(1000, 0);
            x.set(2, 1000);
            x.order(8, 365, 101, first, 5, 1);
            x.days(30);
            Due.is("owed before", x.owedBits(0), Double.doubleToLongBits(30 - first));
            x.days(1);
            Due.is("taken", x.money(0, 7), 31 - first);
            Due.is("nothing is owed", x.owedBits(0), 0);
        }
        // Less than a cent is not taken, and stays owed; with the next month's it is more than a cent.
        StandingPayments x = new StandingPayments();
        x.account(1000, 0);
        x.set(2, 500);
        x.order(8, 14, 101, 0, 5, 1);
        double owed = 0.0;
        for (int day = 0; day < 31; day++) owed += 14 * (double) (500 / 1000.0f) / 365.0;
        x.days(31);
        Due.is("nothing taken", x.money(0, 7), 0);
        Due.is("balance", x.money(0, 0), -14);
        Due.is("still owed", x.owedBits(0), Double.doubleToLongBits(owed));
        for (int day = 31; day < 59; day++) owed += 14 * (double) (500 / 1000.0f) / 365.0;
        x.days(28);
        Due.is("one cent", x.money(0, 7), 1);
        Due.is("the rest is owed", x.owedBits(0), Double.doubleToLongBits(owed - 1));
    }

    /** "(A day passes only if today is less than 1094; what if only days passed ends there, too.)" */
    private static void lastDay() {
        StandingPayments x = new StandingPayments();
        x.account(1000000, 0);
        x.account(0, 0);
        pass(x, 1090);
        x.order(8, 100, 101, 1090, 5, 0);
        x.order(17, 100, 101, 1094, 9, 0);
        long end = x.balanceIn(0, 4);
        Due.is("as on the day 1094", x.balanceIn(0, 5), end);
        Due.is("as on the day 1094", x.balanceIn(0, 400), end);
        Due.is("four payments", x.ahead(0, 400, 0), 4);
        Due.is("what is on the last day does not come", x.ahead(1, 400, 1) + x.ahead(1, 400, 3), 0);
        Due.is("no failure on the last day", x.firstFailure(1), -6);
        Due.is("nothing to be paid in for it", x.leastDeposit(1, 100), 0);
        Due.is("not beyond it", x.days(5), -5);
        Due.is("up to it", x.days(4), 1094);
        Due.is("the balance that was told", x.money(0, 0), end);
        Due.is("no day passes", x.days(1), -5);
        Due.is("the balance stays", x.balanceIn(0, 1), end);
        Due.is("nothing is made", x.ahead(0, 1, 0), 0);
        Due.is("nothing fails", x.firstFailure(-6), -6);
        Due.is("nothing is due", x.leastDeposit(0, 1), 0);
        Due.is("today stays", x.count(0), 1094);
        Due.is("an order on the last day", x.order(8, 1, 101, 1094, 5, 0), 2);
        Due.is("it goes on for ever", x.ofOrder(2, 10), 0);
        Due.write(x, "p0>-*1d1.;n1");
        Due.is("from a text too", x.carryOut(), 1);
        Due.is("today is its first day", x.ofOrder(3, 6), 1094);
    }
}
