/** Promises 29 to 31: undo, save and restore. */
public final class UndoAndSaving {
    public static void main(String[] args) {
        promise29UndoesEachChange();
        promise29StepByStep();
        promise29AnotherInItsPlace();
        promise29MadeAnewIsNew();
        promise29KeepsSixStates();
        promise29LeavesPadAndSlots();
        promise30Save();
        promise31Restore();
        Due.end();
    }

    private static StandingPayments busy() {
        StandingPayments x = new StandingPayments();
        x.account(500, 0);
        x.account(0, 20);
        x.account(100, 0);
        x.feed(0, 1);
        x.deposit(1, 50000);
        x.set(0, 9);
        x.order(8, 300, 101, 0, 5, 0);
        x.order(8, 900, 30101, 0, 17, 4);
        // It fails from the Monday 28 on, and then waits.
        x.order(19, 250, 101, 27, 45, 5);
        x.holiday(8, 1);
        x.days(29);
        x.stop(0);
        x.days(4);
        return x;
    }

    private static int change(StandingPayments x, int which) {
        switch (which) {
            case 0: return x.set(0, 5);
            case 1: return x.set(1, 999);
            case 2: return x.set(2, 500);
            case 3: return x.set(3, 3);
            case 4: return x.holiday(40, 1);
            case 5: return x.holiday(8, 0);
            case 6: return x.account(7, 8);
            case 7: return x.feed(2, 1);
            case 8: return x.feed(0, -6);
            case 9: return x.deposit(2, 77);
            case 10: return x.order(11, 5, 20215, 40, 23, 2);
            case 11: return x.change(1, 5, 0);
            case 12: return x.stop(1);
            case 13: return x.goOn(0);
            case 14: return x.giveUp(0);
            case 15: return x.days(30);
            case 16: return x.restore(0);
            case 17: Due.write(x, "d1+5;n5;g0"); return x.carryOut();
            default: return x.set(0, x.count(11));
        }
    }

    private static StandingPayments busyAndSaved(int which) {
        StandingPayments x = busy();
        x.save(0);
        // What is restored has to be another state.
        if (which == 16) x.days(3);
        return x;
    }

    /** Each with an object of its own: as it was, behind the change, behind its undo, and behind the change once more. */
    private static void promise29UndoesEachChange() {
        Due.is("29: nothing", new StandingPayments().undo(), -5);
        for (int which = 0; which <= 18; which++) {
            String before = Answers.ofHouse(busyAndSaved(which));
            StandingPayments x = busyAndSaved(which);
            int changes = x.count(10);
            int answer = change(x, which);
            Due.is("29: no error of " + which, answer >= 0 || answer == -6 ? 1 : 0, 1);
            Due.is("29: recorded " + which, x.count(10), Math.min(6, changes + 1));
            String behind = Answers.ofHouse(x);
            Due.is("29: changed by " + which, behind.equals(before) ? 1 : 0, which == 18 ? 1 : 0);
            StandingPayments y = busyAndSaved(which);
            change(y, which);
            Due.is("29: undone " + which, y.undo(), Math.min(5, changes));
            Answers.same("29: as it was before " + which, Answers.ofHouse(y), before);
            StandingPayments z = busyAndSaved(which);
            change(z, which);
            z.undo();
            change(z, which);
            Answers.same("29: done again " + which, Answers.ofHouse(z), behind);
        }
    }

    /** Six changes are undone one by one, and each state on the way back is what it was. */
    private static void promise29StepByStep() {
        int[] steps = {6, 10, 17, 14, 15, 4};
        for (int undone = 0; undone <= 6; undone++) {
            StandingPayments x = busy();
            for (int step : steps) change(x, step);
            for (int i = 1; i <= undone; i++) Due.is("29: " + i + " undone", x.undo(), 6 - i);
            if (undone == 6) Due.is("29: no more", x.undo(), -5);
            StandingPayments y = busy();
            for (int i = 0; i < 6 - undone; i++) change(y, steps[i]);
            Answers.same("29: " + undone + " steps back", Answers.ofHouse(x), Answers.ofHouse(y));
        }
    }

    /** What is made in another's place, after an undo, has nothing of it, in forecasts too. */
    private static void promise29AnotherInItsPlace() {
        StandingPayments x = new StandingPayments();
        x.account(0, 0);
        x.account(700, 0);
        x.save(1);
        x.order(17, 5, 20115, 0, 5, 3);
        Due.is("29: the 15th", x.balanceIn(1, 15), -5);
        x.save(0);
        x.undo();
        Due.is("29: none", x.ofOrder(0, 0), -1);
        x.order(17, 7, 20120, 0, 5, 3);
        Due.is("29: not on the 15th", x.balanceIn(1, 19), 0);
        Due.is("29: the 20th is a Saturday", x.balanceIn(1, 22), -7);
        x.restore(0);
        Due.is("29: the 15th again", x.ofOrder(0, 5), 15);
        Due.is("29: its date", x.dateOf(0, 0), 14);
        Due.is("29: in forecasts", x.balanceIn(1, 15), -5);
        x.undo();
        Due.is("29: the 20th again", x.ofOrder(0, 15), 19);
        Due.is("29: its day", x.ofOrder(0, 5), 20);
        x.restore(1);
        x.order(8, 9, 30101, 40, 23, 0);
        int[] due = {0, -6, 9, 3, 1, 1, 40, 2, 3, 0, 0, 0, 0, 0, 0, 58};
        for (int what = 0; what < 16; what++) Due.is("29: of another kind, " + what, x.ofOrder(0, what), due[what]);
    }

    /** Accounts and orders whose making was undone leave nothing to those that are made in their place. */
    private static void promise29MadeAnewIsNew() {
        StandingPayments x = later();
        Due.is("29: one is missed", x.ofOrder(2, 12) > 0 ? 1 : 0, 1);
        Due.is("29: one waits", x.ofOrder(2, 14) > 0 ? 1 : 0, 1);
        Due.is("29: one is skipped", x.ofOrder(0, 13), 2);
        Due.is("29: interest was taken", x.money(2, 7) > 0 ? 1 : 0, 1);
        x.save(1);
        x.restore(0);
        x.deposit(0, 5);
        x.order(1, 5, 101, 0, 5, 0);
        x.order(17, 5, 101, 0, 5, 0);
        x.order(26, 5, 101, 0, 5, 0);
        for (int order = 0; order < 3; order++) {
            Due.is("29: goes on", x.ofOrder(order, 10), 0);
            for (int what = 11; what <= 15; what++) Due.is("29: new, " + what, x.ofOrder(order, what), 0);
        }
        x.days(1);
        for (int order = 0; order < 3; order++) Due.is("29: paid", x.ofOrder(order, 11), 1);
        x.restore(1);
        Answers.same("29: all of it is back", Answers.ofHouse(x), Answers.ofHouse(later()));
        Due.is("29: undone", x.undo(), 5);
        Due.is("29: three new ones", x.count(5), 3);
        newAccountsAreNew();
    }

    /** Saved in the slot 0 with three accounts, and then lived in, with three orders. */
    private static StandingPayments later() {
        StandingPayments x = new StandingPayments();
        x.account(1000000, 0);
        x.account(1000000, 0);
        x.account(100, 0);
        x.save(0);
        x.feed(0, 1);
        x.feed(1, 2);
        x.deposit(0, 7);
        x.deposit(1, 2000000);
        x.deposit(2, 1800100);
        x.order(1, 1000000, 101, 0, 45, 9);
        x.order(9, 700000, 101, 0, 5, 9);
        x.order(26, 900000, 101, 0, 5, 0);
        x.stop(2);
        x.goOn(2);
        x.days(30);
        x.days(2);
        x.stop(2);
        return x;
    }

    private static void newAccountsAreNew() {
        StandingPayments y = new StandingPayments();
        y.save(0);
        for (int i = 0; i < 3; i++) y.account(1000000, 0);
        y.feed(0, 1);
        y.deposit(1, 1000);
        y.order(2, 1000000, 101, 0, 5, 1);
        y.order(8, 1000000, 101, 0, 5, 1);
        y.order(18, 1000000, 101, 0, 5, 1);
        y.days(31);
        y.order(8, 5, 101, 33, 5, 0);
        y.days(4);
        y.restore(0);
        for (int i = 0; i < 3; i++) {
            y.account(0, 0);
            for (int what = 0; what < 9; what++) Due.is("29: new account, " + what, y.money(i, what), 0);
            Due.is("29: owes nothing", y.owedBits(i), 0);
            Due.is("29: has no feeder", y.feed(i, -6), -6);
        }
        Due.is("29: no order", y.ofOrder(0, 0), -1);
    }

    private static void promise29KeepsSixStates() {
        StandingPayments x = new StandingPayments();
        x.account(0, 0);
        for (int i = 1; i <= 30; i++) {
            x.deposit(0, i);
            Due.is("29: so many", x.count(10), Math.min(6, i + 1));
            x.deposit(0, 0);
            x.deposit(5, 1);
            x.fault();
            x.wipe();
            x.put('n');
            x.save(1);
            x.leastDeposit(0, 3);
            Due.is("29: none recorded", x.count(10), Math.min(6, i + 1));
        }
        for (int i = 5; i >= 0; i--) {
            Due.is("29: left", x.undo(), i);
            Due.is("29: balance", x.money(0, 0), (24 + i) * (25 + i) / 2);
        }
        Due.is("29: no more", x.undo(), -5);
        Due.is("29: stays", x.money(0, 0), 300);
        x.deposit(0, 1);
        x.deposit(0, 2);
        Due.is("29: back one", x.undo(), 1);
        x.deposit(0, 4);
        Due.is("29: another way on", x.money(0, 0), 305);
        Due.is("29: back", x.undo(), 1);
        Due.is("29: back", x.undo(), 0);
        Due.is("29: where it was", x.money(0, 0), 300);
    }

    private static void promise29LeavesPadAndSlots() {
        StandingPayments x = new StandingPayments();
        x.days(3);
        x.put('n');
        x.days(4);
        x.save(1);
        x.put('5');
        Due.is("29: undone", x.undo(), 1);
        Due.is("29: today", x.count(0), 3);
        Due.is("29: the pad stays", x.count(9), 2);
        Due.is("29: the slot stays", x.restore(1), 7);
        Due.is("29: the restoring is undone", x.undo(), 1);
        Due.is("29: the pad stays", x.fault(), -6);
        Due.is("29: today", x.count(0), 3);
    }

    /** As busy() with two slots: 0 of the day 33, 1 of the day 36 with a sign on the pad; today is the day 45. */
    private static StandingPayments savedTwice() {
        StandingPayments x = busy();
        Due.is("30: today", x.save(0), 33);
        Due.is("30: no change", x.count(10), 6);
        x.days(3);
        x.put('a');
        Due.is("30: today then", x.save(1), 36);
        x.days(9);
        return x;
    }

    private static void promise30Save() {
        StandingPayments x = busy();
        Due.is("30: no slot", x.save(-1), -2);
        Due.is("30: no slot", x.save(2), -2);
        Due.is("30: far off", x.save(Integer.MAX_VALUE), -2);
        Due.is("30: far below", x.save(Integer.MIN_VALUE), -2);
        Due.is("30: nothing saved by that", x.restore(0), -5);
        Due.is("30: nor in the other", x.restore(1), -5);
        x = savedTwice();
        x.restore(0);
        Answers.same("30: the slot 0", Answers.ofHouse(x), Answers.ofHouse(busy()));
        x = savedTwice();
        x.restore(0);
        x.restore(1);
        StandingPayments second = busy();
        second.days(3);
        Answers.same("30: the slot 1", Answers.ofHouse(x), Answers.ofHouse(second));
        Due.is("30: the pad is not saved", x.wipe(), 1);
        // "and overwrites what was saved there", here and not in the other slot.
        x = savedTwice();
        Due.is("30: overwritten", x.save(0), 45);
        x.set(2, 999);
        x.restore(0);
        StandingPayments third = busy();
        third.days(3);
        third.days(9);
        Answers.same("30: the latest", Answers.ofHouse(x), Answers.ofHouse(third));
        Due.is("30: the other one stays", x.restore(1), 36);
        // "Saves everything except the pad, the history and the slots"
        StandingPayments y = new StandingPayments();
        y.days(1);
        y.days(1);
        y.save(0);
        y.save(1);
        y.days(5);
        y.save(1);
        y.undo();
        y.undo();
        Due.is("30: the history goes its way", y.count(10), 1);
        Due.is("30: today as saved", y.restore(0), 2);
        Due.is("30: the history is not restored", y.count(10), 2);
        Due.is("30: nor the other slot", y.restore(1), 7);
        StandingPayments empty = new StandingPayments();
        Due.is("30: a new house", empty.save(0), 0);
        empty.account(0, 0);
        empty.days(9);
        Due.is("30: a new house again", empty.restore(0), 0);
        Due.is("30: without accounts", empty.count(1), 0);
    }

    private static StandingPayments restoredFrom(StandingPayments x, int times) {
        for (int i = 0; i < times; i++) {
            x.days(5);
            x.account(0, 0);
            x.order(28, 10, 101, 40, 0, 0);
            x.days(20);
            x.holiday(70 + i, 1);
            x.deposit(0, 1);
            Due.is("31: today then", x.restore(1), 33);
        }
        return x;
    }

    private static StandingPayments busyInSlot1() {
        StandingPayments x = busy();
        x.save(1);
        return x;
    }

    private static void promise31Restore() {
        StandingPayments x = busyInSlot1();
        Due.is("31: no slot", x.restore(-1), -2);
        Due.is("31: no slot", x.restore(2), -2);
        Due.is("31: far off", x.restore(Integer.MAX_VALUE), -2);
        Due.is("31: far below", x.restore(Integer.MIN_VALUE), -2);
        Due.is("31: nothing saved", x.restore(0), -5);
        x.undo();
        x.undo();
        Due.is("31: four changes", x.count(10), 4);
        x.put('a');
        Due.is("31: today then", x.restore(1), 33);
        Due.is("31: a change", x.count(10), 5);
        Due.is("31: the pad stays", x.count(9), 1);
        Due.is("31: the same again is a change", x.restore(1), 33);
        Due.is("31: recorded", x.count(10), 6);
        Answers.same("31: as saved", Answers.ofHouse(x), Answers.ofHouse(busy()));
        // "which keeps it": as often as it is restored, and whatever is done in between.
        x = restoredFrom(busyInSlot1(), 4);
        Answers.same("31: as saved, each time", Answers.ofHouse(x), Answers.ofHouse(busy()));
        x = restoredFrom(busyInSlot1(), 2);
        Due.is("31: undone", x.undo(), 5);
        StandingPayments before = restoredFrom(busyInSlot1(), 1);
        before.days(5);
        before.account(0, 0);
        before.order(28, 10, 101, 40, 0, 0);
        before.days(20);
        before.holiday(71, 1);
        before.deposit(0, 1);
        Answers.same("31: as before it", Answers.ofHouse(x), Answers.ofHouse(before));
    }
}
