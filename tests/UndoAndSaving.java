/** Promises 29 to 31: undo, save and restore. */
public final class UndoAndSaving {
    public static void main(String[] args) {
        promise29UndoesEachChange();
        promise29MadeAnewIsNew();
        promise29KeepsSixStates();
        promise29LeavesPadAndSlots();
        promise30Save();
        promise31Restore();
        Due.end();
    }

    /** All that is undone and saved. */
    private static String stateOf(StandingPayments x) {
        StringBuilder s = new StringBuilder();
        for (int what = 0; what < 15; what++) if (what != 9 && what != 10) s.append(x.count(what)).append(' ');
        for (int account = 0; account < x.count(1); account++) {
            for (int what = 0; what < 9; what++) s.append(x.money(account, what)).append(' ');
            s.append(x.owedBits(account)).append('\n');
        }
        for (int order = 0; order < x.count(2); order++) {
            for (int what = 0; what < 16; what++) s.append(x.ofOrder(order, what)).append(' ');
        }
        for (int payment = 0; payment < x.count(4); payment++) {
            for (int what = 0; what < 5; what++) s.append(x.ofPayment(payment, what)).append(' ');
        }
        for (int day = 0; day < 100; day++) s.append(x.ofDay(day, 0)).append(x.ofDay(day, 3));
        // The limits and the feeders show only by what they do.
        for (int account = 0; account < x.count(1); account++) s.append(' ').append(x.balanceIn(account, 30));
        return s.toString();
    }

    private static StandingPayments busy() {
        StandingPayments x = new StandingPayments();
        x.account(500, 0);
        x.account(0, 20);
        x.account(100, 0);
        x.feed(0, 1);
        x.deposit(1, 50000);
        x.set(0, 9);
        x.order(8, 300, 101, 0, 5, 0);
        x.order(8, 900, 30101, 0, 17, 4);
        // It fails from the Monday 28 on, and then waits.
        x.order(19, 250, 101, 27, 45, 5);
        x.holiday(8, 1);
        x.days(29);
        x.stop(0);
        x.days(4);
        return x;
    }

    private static int change(StandingPayments x, int which) {
        switch (which) {
            case 0: return x.set(0, 5);
            case 1: return x.set(1, 999);
            case 2: return x.set(2, 500);
            case 3: return x.set(3, 3);
            case 4: return x.holiday(40, 1);
            case 5: return x.holiday(8, 0);
            case 6: return x.account(7, 8);
            case 7: return x.feed(2, 1);
            case 8: return x.feed(0, -6);
            case 9: return x.deposit(2, 77);
            case 10: return x.order(11, 5, 20215, 40, 23, 2);
            case 11: return x.change(1, 5, 0);
            case 12: return x.stop(1);
            case 13: return x.goOn(0);
            case 14: return x.giveUp(0);
            case 15: return x.days(30);
            case 16: return x.restore(0);
            case 17: Due.write(x, "d1+5;n5;g0"); return x.carryOut();
            default: return x.set(0, x.count(11));
        }
    }

    private static void promise29UndoesEachChange() {
        Due.is("29: nothing", new StandingPayments().undo(), -5);
        for (int which = 0; which <= 18; which++) {
            StandingPayments x = busy();
            x.save(0);
            int changes = x.count(10);
            if (which == 16) {
                x.days(3);
            }
            String before = stateOf(x);
            int answer = change(x, which);
            Due.is("29: no error of " + which, answer >= 0 || answer == -6 ? 1 : 0, 1);
            Due.is("29: recorded " + which, x.count(10), Math.min(6, changes + 1));
            String behind = stateOf(x);
            Due.is("29: changed by " + which, behind.equals(before) ? 1 : 0, which == 18 ? 1 : 0);
            Due.is("29: undone " + which, x.undo(), Math.min(5, changes));
            Due.is("29: as it was before " + which, stateOf(x).equals(before) ? 1 : 0, 1);
            change(x, which);
            Due.is("29: done again " + which, stateOf(x).equals(behind) ? 1 : 0, 1);
        }
    }

    /** Accounts and orders whose making was undone leave nothing to those that are made in their place. */
    private static void promise29MadeAnewIsNew() {
        StandingPayments x = new StandingPayments();
        x.account(1000000, 0);
        x.account(1000000, 0);
        x.account(100, 0);
        x.save(0);
        x.feed(0, 1);
        x.feed(1, 2);
        x.deposit(0, 7);
        x.deposit(1, 2000000);
        x.deposit(2, 1800100);
        x.order(1, 1000000, 101, 0, 45, 9);
        x.order(9, 700000, 101, 0, 5, 9);
        x.order(26, 900000, 101, 0, 5, 0);
        x.stop(2);
        x.goOn(2);
        x.days(30);
        x.days(2);
        Due.is("29: one is missed", x.ofOrder(2, 12) > 0 ? 1 : 0, 1);
        Due.is("29: one waits", x.ofOrder(2, 14) > 0 ? 1 : 0, 1);
        Due.is("29: one is skipped", x.ofOrder(0, 13), 2);
        Due.is("29: interest was taken", x.money(2, 7) > 0 ? 1 : 0, 1);
        x.stop(2);
        String later = stateOf(x);
        x.save(1);
        x.restore(0);
        x.deposit(0, 5);
        x.order(1, 5, 101, 0, 5, 0);
        x.order(17, 5, 101, 0, 5, 0);
        x.order(26, 5, 101, 0, 5, 0);
        for (int order = 0; order < 3; order++) {
            Due.is("29: goes on", x.ofOrder(order, 10), 0);
            for (int what = 11; what <= 15; what++) Due.is("29: new, " + what, x.ofOrder(order, what), 0);
        }
        x.days(1);
        for (int order = 0; order < 3; order++) Due.is("29: paid", x.ofOrder(order, 11), 1);
        x.restore(1);
        Due.is("29: all of it is back", stateOf(x).equals(later) ? 1 : 0, 1);
        Due.is("29: undone", x.undo(), 5);
        Due.is("29: three new ones", x.count(5), 3);
        StandingPayments y = new StandingPayments();
        y.save(0);
        for (int i = 0; i < 3; i++) y.account(1000000, 0);
        y.feed(0, 1);
        y.deposit(1, 1000);
        y.order(2, 1000000, 101, 0, 5, 1);
        y.order(8, 1000000, 101, 0, 5, 1);
        y.order(18, 1000000, 101, 0, 5, 1);
        y.days(31);
        y.order(8, 5, 101, 33, 5, 0);
        y.days(4);
        y.restore(0);
        for (int i = 0; i < 3; i++) {
            y.account(0, 0);
            for (int what = 0; what < 9; what++) Due.is("29: new account, " + what, y.money(i, what), 0);
            Due.is("29: owes nothing", y.owedBits(i), 0);
            Due.is("29: has no feeder", y.feed(i, -6), -6);
        }
        Due.is("29: no order", y.ofOrder(0, 0), -1);
    }

    private static void promise29KeepsSixStates() {
        StandingPayments x = new StandingPayments();
        x.account(0, 0);
        for (int i = 1; i <= 30; i++) {
            x.deposit(0, i);
            Due.is("29: so many", x.count(10), Math.min(6, i + 1));
            x.deposit(0, 0);
            x.deposit(5, 1);
            x.fault();
            x.wipe();
            x.put('n');
            x.save(1);
            x.leastDeposit(0, 3);
            Due.is("29: none recorded", x.count(10), Math.min(6, i + 1));
        }
        for (int i = 5; i >= 0; i--) {
            Due.is("29: left", x.undo(), i);
            Due.is("29: balance", x.money(0, 0), (24 + i) * (25 + i) / 2);
        }
        Due.is("29: no more", x.undo(), -5);
        Due.is("29: stays", x.money(0, 0), 300);
        x.deposit(0, 1);
        x.deposit(0, 2);
        Due.is("29: back one", x.undo(), 1);
        x.deposit(0, 4);
        Due.is("29: another way on", x.money(0, 0), 305);
        Due.is("29: back", x.undo(), 1);
        Due.is("29: back", x.undo(), 0);
        Due.is("29: where it was", x.money(0, 0), 300);
    }

    private static void promise29LeavesPadAndSlots() {
        StandingPayments x = new StandingPayments();
        x.days(3);
        x.put('n');
        x.days(4);
        x.save(1);
        x.put('5');
        Due.is("29: undone", x.undo(), 1);
        Due.is("29: today", x.count(0), 3);
        Due.is("29: the pad stays", x.count(9), 2);
        Due.is("29: the slot stays", x.restore(1), 7);
        Due.is("29: the restoring is undone", x.undo(), 1);
        Due.is("29: the pad stays", x.fault(), -6);
        Due.is("29: today", x.count(0), 3);
    }

    private static void promise30Save() {
        StandingPayments x = busy();
        Due.is("30: no slot", x.save(-1), -2);
        Due.is("30: no slot", x.save(2), -2);
        Due.is("30: far off", x.save(Integer.MAX_VALUE), -2);
        Due.is("30: far below", x.save(Integer.MIN_VALUE), -2);
        Due.is("30: nothing saved by that", x.restore(0), -5);
        String first = stateOf(x);
        Due.is("30: today", x.save(0), 33);
        Due.is("30: no change", x.count(10), 6);
        x.days(3);
        x.put('a');
        String second = stateOf(x);
        Due.is("30: today then", x.save(1), 36);
        x.days(9);
        x.restore(0);
        Due.is("30: the slot 0", stateOf(x).equals(first) ? 1 : 0, 1);
        x.restore(1);
        Due.is("30: the slot 1", stateOf(x).equals(second) ? 1 : 0, 1);
        Due.is("30: the pad is not saved", x.wipe(), 1);
        x.days(5);
        String third = stateOf(x);
        Due.is("30: overwritten", x.save(0), 41);
        x.set(2, 999);
        x.restore(0);
        Due.is("30: the latest", stateOf(x).equals(third) ? 1 : 0, 1);
    }

    private static void promise31Restore() {
        StandingPayments x = busy();
        Due.is("31: no slot", x.restore(-1), -2);
        Due.is("31: no slot", x.restore(2), -2);
        Due.is("31: far off", x.restore(Integer.MAX_VALUE), -2);
        Due.is("31: far below", x.restore(Integer.MIN_VALUE), -2);
        Due.is("31: nothing saved", x.restore(1), -5);
        x.undo();
        x.undo();
        Due.is("31: four changes", x.count(10), 4);
        x.save(1);
        String saved = stateOf(x);
        Due.is("31: the other slot is empty", x.restore(0), -5);
        x.days(5);
        x.account(0, 0);
        x.order(28, 10, 101, 34, 0, 0);
        x.days(1);
        String later = stateOf(x);
        x.put('a');
        Due.is("31: today then", x.restore(1), 29);
        Due.is("31: as saved", stateOf(x).equals(saved) ? 1 : 0, 1);
        Due.is("31: a change", x.count(10), 6);
        Due.is("31: the pad stays", x.count(9), 1);
        Due.is("31: undone", x.undo(), 5);
        Due.is("31: as before", stateOf(x).equals(later) ? 1 : 0, 1);
        for (int i = 0; i < 3; i++) {
            Due.is("31: today again", x.restore(1), 29);
            Due.is("31: as saved again", stateOf(x).equals(saved) ? 1 : 0, 1);
            x.deposit(0, 1);
            x.days(20);
            x.holiday(30 + i, 1);
        }
        Due.is("31: the slot keeps it", x.restore(1), 29);
        Due.is("31: untouched by later calls", stateOf(x).equals(saved) ? 1 : 0, 1);
    }
}
