/**
 * What an object answers about all that it holds, as one text. It asks some 300 times, and an object is for 512 calls
 * (what later ones answer is free): so each object is asked but once, and what is compared is made anew.
 */
final class Answers {
    /** Days on which the tests make holidays, and weekends. */
    private static final int[] DAYS = {0, 4, 5, 6, 8, 30, 31, 32, 40, 700, 1094};

    private Answers() {
    }

    /** All that is undone and saved, and so not the pad, nor how many changes can be undone. */
    static String ofHouse(StandingPayments x) {
        StringBuilder s = new StringBuilder();
        for (int what = 0; what < 15; what++) if (what != 9 && what != 10) s.append(x.count(what)).append(' ');
        for (int account = 0; account < x.count(1); account++) {
            s.append("\naccount");
            for (int what = 0; what < 9; what++) s.append(' ').append(x.money(account, what));
            s.append(' ').append(x.owedBits(account));
        }
        for (int order = 0; order < x.count(2); order++) {
            s.append("\norder");
            // All of it of a few; of the many what can become another.
            for (int what = order < 4 ? 0 : 8; what < 16; what++) s.append(' ').append(x.ofOrder(order, what));
        }
        for (int payment = 0; payment < x.count(4); payment++) {
            s.append("\npayment");
            for (int what = 0; what < 5; what++) s.append(' ').append(x.ofPayment(payment, what));
        }
        s.append("\ndays");
        for (int day : DAYS) s.append(' ').append(x.ofDay(day, 0)).append(x.ofDay(day, 3));
        // The overdrafts, what is kept and the feeders show only by what they do.
        for (int account = 0; account < x.count(1); account++) s.append(' ').append(x.balanceIn(account, 30));
        return s.toString();
    }

    static String of(StandingPayments x) {
        return ofHouse(x) + "\npad " + x.count(9) + ' ' + x.fault() + ", changes " + x.count(10);
    }

    static void same(String what, String got, String due) {
        if (!got.equals(due)) System.out.println(what + ": answers\n" + got + "\ndue are\n" + due);
        Due.is(what, got.equals(due) ? 1 : 0, 1);
    }
}
