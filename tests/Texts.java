/** Promises 25 to 28: the pad, its fault, and the acts that are carried out. */
public final class Texts {
    public static void main(String[] args) {
        promise25Put();
        promise26Wipe();
        promise27Fault();
        promise27EverySignOfAnAct();
        promise27NumbersAtEachPlace();
        promise27EarlyEndsAtEachPlace();
        promise28CarryOut();
        promise28AllKindsAndRules();
        promise28OnTheLastDay();
        promise28ActsThatFail();
        promise28IsOneChange();
        Due.end();
    }

    private static void promise25Put() {
        StandingPayments x = new StandingPayments();
        Due.is("25: no character", x.put(0), -2);
        Due.is("25: below 33", x.put(32), -2);
        Due.is("25: above 126", x.put(127), -2);
        Due.is("25: above 127", x.put(200), -2);
        Due.is("25: all bits", x.put(-1), -2);
        Due.is("25: the highest bit", x.put(Long.MIN_VALUE), -2);
        Due.is("25: a bad one above", x.put(32L << 8 | 'a'), -2);
        Due.is("25: a bad eighth", x.put(127L << 56 | Due.packed("aaaaaaa")), -2);
        Due.is("25: a bad last", x.put(Due.packed("aaaaaaa") << 8 | 31), -2);
        Due.is("25: above a 0", x.put('a' << 16 | 'a'), -2);
        Due.is("25: nothing but above a 0", x.put('a' << 8), -2);
        Due.is("25: a bit far above a 0", x.put(1L << 56 | 'a'), -2);
        Due.is("25: nothing put", x.count(9), 0);
        Due.is("25: the least", x.put(33), 1);
        Due.is("25: the greatest", x.put(126), 2);
        Due.is("25: eight", x.put(Due.packed("~~~~~~~!")), 10);
        Due.is("25: told", x.count(9), 10);
        Due.is("25: no change", x.count(10), 0);
        for (int i = 2; i < 10; i++) Due.is("25: eight more", x.put(Due.packed("abcdefgh")), 8 + 8 * i - 6);
        Due.is("25: 74 up to now", x.count(9), 74);
        Due.is("25: too many by one", x.put(Due.packed("abcdefg")), -4);
        Due.is("25: a bad value first", x.put(Due.packed("abcdefg") << 8), -2);
        Due.is("25: nothing of it put", x.count(9), 74);
        Due.is("25: up to 80", x.put(Due.packed("abcdef")), 80);
        Due.is("25: too many", x.put('a'), -4);
        Due.is("25: 80", x.count(9), 80);
        // Each code, alone, as the last and as the first of eight.
        for (long code = 1; code <= 255; code++) {
            int due = code >= 33 && code <= 126 ? 0 : 1;
            StandingPayments z = new StandingPayments();
            Due.is("25: " + code + " alone", z.put(code), due == 0 ? 1 : -2);
            Due.is("25: " + code + " as the last", z.put(Due.packed("aaaaaaa") << 8 | code), due == 0 ? 9 : -2);
            Due.is("25: " + code + " as the first", z.put(code << 56 | Due.packed("aaaaaaa")), due == 0 ? 17 : -2);
            Due.is("25: " + code + " above a 0", z.put(code << 16 | 'a'), -2);
            Due.is("25: length behind " + code, z.count(9), due == 0 ? 17 : 0);
        }
        for (int signs = 1; signs <= 8; signs++) {
            StandingPayments z = new StandingPayments();
            Due.is("25: " + signs + " signs", z.put(Due.packed("abcdefgh".substring(0, signs))), signs);
        }
        // The characters stand in the order in which they were given.
        StandingPayments y = new StandingPayments();
        y.put(Due.packed("n1"));
        y.put('2');
        y.put(Due.packed("3;n4"));
        Due.is("25: carried out", y.carryOut(), 2);
        Due.is("25: in their order", y.count(0), 127);
    }

    private static void promise26Wipe() {
        StandingPayments x = new StandingPayments();
        Due.is("26: an empty one", x.wipe(), 0);
        Due.write(x, "n1;n2;n3;");
        Due.is("26: its length", x.wipe(), 9);
        Due.is("26: empty", x.count(9), 0);
        Due.is("26: no change", x.count(10), 0);
        Due.write(x, "n5");
        Due.is("26: nothing is left of the old one", x.carryOut(), 1);
        Due.is("26: five days", x.count(0), 5);
    }

    private static int faultOf(String text) {
        StandingPayments x = new StandingPayments();
        Due.write(x, text);
        Due.is("27: length of " + text, x.count(9), text.length());
        int fault = x.fault();
        Due.is("27: told again for " + text, x.fault(), fault);
        Due.is("27: stays " + text, x.count(9), text.length());
        return fault;
    }

    private static void promise27Fault() {
        Due.is("27: empty", faultOf(""), 0);
        String[] sound = {"s0", "g99999", "n400", "d7+0", "p0>1*5d1.", "p7>-*99999e12/31!", "s1;g2;d3+4;n5",
            "p0>0*0w0f", "p1>2*3m4/5b", "p1>2*3d99999/99999x", "n0;n0", "s9;p0>1*1d1.;s8"};
        for (String text : sound) Due.is("27: " + text, faultOf(text), -6);
        String[] early = {"s", "g", "n", "d", "d0", "d0+", "p", "p0", "p0>", "p0>-", "p0>-*", "p0>-*5", "p0>-*5d",
            "p0>-*5d1", "p0>-*5d1/", "p0>-*5d1/3", "s0;", "s0;p0>-*5d1.;", "n12;d"};
        for (String text : early) Due.is("27: " + text, faultOf(text), text.length());
        Object[][] faults = {
            {"x", 0}, {"P0", 0}, {";", 0}, {"0", 0}, {"s00", 2}, {"s01", 2}, {"n007", 2}, {"s-1", 1},
            {"s123456", 6}, {"s999990", 6}, {"g100000", 6}, {"d8+1", 1}, {"d9+1", 1}, {"d0-1", 2}, {"d0+01", 4},
            {"d00+1", 2}, {"p8>1*1d1.", 1}, {"p0>8*1d1.", 3}, {"p0<1*1d1.", 2}, {"p0>1+1d1.", 4},
            {"p0>1*d1.", 5}, {"p0>1*1.1.", 6}, {"p0>1*1d.", 7}, {"p0>1*1d1;", 8}, {"p0>1*1d1/.", 9},
            {"p0>1*1d1/2/3.", 10}, {"p0>1*05d1.", 6}, {"p0>1*5d01.", 8}, {"p0>1*5d1/01.", 10},
            {"p0>1*123456d1.", 10}, {"p0>--1d1.", 4}, {"p->1*1d1.", 1}, {"p0>1*1d1.x", 9}, {"p0>1*1d1..", 9},
            {"s1,s2", 2}, {"s1;;s2", 3}, {"s1;s2 ".trim() + "x", 5}, {"n5~", 2}, {"s1s2", 2}, {"d1+5;d9", 6}};
        for (Object[] row : faults) Due.is("27: " + row[0], faultOf((String) row[0]), (Integer) row[1]);
        StandingPayments x = new StandingPayments();
        Due.write(x, "n1;".repeat(26) + "n1");
        Due.is("27: 80 characters", x.count(9), 80);
        Due.is("27: without a fault", x.fault(), -6);
        x.wipe();
        Due.write(x, "n1;".repeat(26) + "n;");
        Due.is("27: a fault in the last", x.fault(), 79);
        x.wipe();
        Due.write(x, "n1;".repeat(26) + "1;");
        Due.is("27: a fault behind the last", x.fault(), 78);
        x.wipe();
        Due.write(x, "n1;".repeat(25) + "n11;n");
        Due.is("27: too early at 80", x.fault(), 80);
        Due.is("27: no change", x.count(10), 0);
    }

    /** At each place of a text, each sign is put that may stand there or not. */
    private static void promise27EverySignOfAnAct() {
        String text = "p0>1*23d45/6.;d7+8;s9";
        String[] may = {"psgdn", "01234567", ">", "01234567-", "*", "0123456789", "0123456789dwme",
            "0123456789dwme", "0123456789", "0123456789/.fbx!", "0123456789/.fbx!", "0123456789", "0123456789.fbx!", ";", "psgdn",
            "01234567", "+", "0123456789", "0123456789;", "psgdn", "0123456789"};
        for (int at = 0; at < text.length(); at++) {
            for (char sign = 33; sign <= 126; sign++) {
                int fault = faultOf(text.substring(0, at) + sign);
                boolean stands = fault == -6 || fault == at + 1;
                Due.is("27: " + sign + " at " + at, stands ? 1 : 0, may[at].indexOf(sign) >= 0 ? 1 : 0);
                if (!stands) Due.is("27: fault of " + sign + " at " + at, fault, at);
            }
        }
    }

    /** "A number is 0 to 99999, without leading zeros", "also of a digit by which a number would be above 99999" */
    private static void promise27NumbersAtEachPlace() {
        String[][] places = {{"s", ""}, {"g", ""}, {"n", ""}, {"d3+", ""}, {"p0>1*", "d1."}, {"p0>-*1m", "x"},
            {"p7>-*1e2/", "!"}, {"s1;g", ";n1"}};
        for (String[] place : places) {
            int at = place[0].length();
            for (String number : new String[] {"0", "1", "9", "10", "99", "12345", "90000", "99999"}) {
                Due.is("27: " + number + " behind " + place[0], faultOf(place[0] + number + place[1]), -6);
            }
            for (String number : new String[] {"100000", "000000", "999990", "999999", "123456", "100001"}) {
                int digit = number.charAt(0) == '0' ? 1 : 5;
                Due.is("27: " + number + " behind " + place[0], faultOf(place[0] + number + place[1]), at + digit);
            }
            for (String number : new String[] {"00", "01", "09", "012"}) {
                Due.is("27: " + number + " behind " + place[0], faultOf(place[0] + number + place[1]), at + 1);
            }
            for (String none : new String[] {"-1", "+1", ".", ";", "a", "/1"}) {
                Due.is("27: " + none + " behind " + place[0], faultOf(place[0] + none + place[1]), at);
            }
        }
        // "A digit is 0 to 7."
        for (int digit = 0; digit <= 9; digit++) {
            Due.is("27: payer " + digit, faultOf("p" + digit + ">-*1d1."), digit <= 7 ? -6 : 1);
            Due.is("27: getter " + digit, faultOf("p0>" + digit + "*1d1."), digit <= 7 ? -6 : 3);
            Due.is("27: paid in to " + digit, faultOf("d" + digit + "+1"), digit <= 7 ? -6 : 1);
        }
    }

    /** "if there is none and the text ends too early (also if it is empty), it is the length of the text" */
    private static void promise27EarlyEndsAtEachPlace() {
        String text = "n1;d7+10;p0>1*23d45/67!;s8";
        // Where the text up to there is whole: behind the digits that end a number of n, d, s, and behind a rule.
        String whole = " 2 7 8 23 26 ";
        for (int end = 0; end <= text.length(); end++) {
            int due = whole.contains(" " + end + " ") ? -6 : end;
            Due.is("27: the end at " + end, faultOf(text.substring(0, end)), due);
        }
        // A fault before the end is told, and not the end.
        Due.is("27: a fault, and too early", faultOf("d9;d0"), 1);
        Due.is("27: two faults", faultOf("s1;x;y"), 3);
    }

    /** "the kind 0 to 3 (d, w, m, e) with the step, the day d behind "/" (of each kind; 1, if none stands there), the rule" */
    private static void promise28AllKindsAndRules() {
        for (int kind = 0; kind <= 3; kind++) {
            StandingPayments x = new StandingPayments();
            for (int i = 0; i < 8; i++) x.account(0, 0);
            x.days(3);
            for (int rule = 0; rule <= 4; rule++) {
                String start = "p" + (rule + 3) + ">" + (rule == 4 ? "-" : String.valueOf(rule)) + "*" + (rule + 1);
                String step = String.valueOf("dwme".charAt(kind)) + (rule + 8);
                char sign = ".fbx!".charAt(rule);
                Due.write(x, start + step + "/3" + rule % 2 + sign + ";" + start + step + sign);
                Due.is("28: two acts", x.carryOut(), 2);
                for (int i = 0; i < 2; i++) {
                    int order = 2 * rule + i;
                    int day = i == 0 ? 30 + rule % 2 : 1;
                    int[] due = {rule + 3, rule == 4 ? -6 : rule, rule + 1, kind, rule + 8, day, 3, rule, 5, 0, 0};
                    for (int what = 0; what < due.length; what++) {
                        Due.is("28: " + start + step + sign + ", " + what, x.ofOrder(order, what), due[what]);
                    }
                }
            }
        }
    }

    private static void promise28OnTheLastDay() {
        StandingPayments x = new StandingPayments();
        x.account(0, 0);
        Due.write(x, "n400;n400;n293;p0>-*5d1.;n1;p0>-*6d1.;d0+1;n1;d0+7");
        Due.is("28: up to the day behind the last", x.carryOut(), 7);
        Due.is("28: today", x.count(0), 1094);
        Due.is("28: an order of the day before", x.ofOrder(0, 6), 1093);
        Due.is("28: an order of the last day", x.ofOrder(1, 6), 1094);
        Due.is("28: nothing behind the error", x.money(0, 1), 1);
    }

    private static void promise28CarryOut() {
        StandingPayments x = new StandingPayments();
        for (int i = 0; i < 8; i++) x.account(0, 0);
        Due.write(x, "d0+70000;n3;p0>7*99999m12/31x;p7>-*1e1!;p3>2*5d2/9.");
        Due.is("28: five acts", x.carryOut(), 5);
        Due.is("28: the pad is empty", x.count(9), 0);
        Due.is("28: paid in", x.money(0, 1), 70000);
        Due.is("28: days", x.count(0), 3);
        int[][] rows = {
            {0, 7, 99999, 2, 12, 31, 3, 3, 5, 0, 0}, {7, -6, 1, 3, 1, 1, 3, 4, 5, 0, 0}, {3, 2, 5, 0, 2, 9, 3, 0, 5, 0, 0}};
        for (int i = 0; i < rows.length; i++) {
            for (int what = 0; what < rows[i].length; what++) {
                Due.is("28: order " + i + ", " + what, x.ofOrder(i, what), rows[i][what]);
            }
        }
        Due.write(x, "p0>1*2w3f;p0>1*2w3b;s1;s4;g1");
        Due.is("28: five more", x.carryOut(), 5);
        Due.is("28: weeks", x.ofOrder(3, 3), 1);
        Due.is("28: the step", x.ofOrder(3, 4), 3);
        Due.is("28: the day 1 of itself", x.ofOrder(3, 5), 1);
        Due.is("28: rule f", x.ofOrder(3, 7), 1);
        Due.is("28: rule b", x.ofOrder(4, 7), 2);
        Due.is("28: stopped and gone on", x.ofOrder(1, 10), 0);
        Due.is("28: stopped", x.ofOrder(4, 10), 1);
        // Today is that of the act, not that of the text.
        Due.write(x, "n7;p1>-*1d1.;n8;p1>-*1d1.");
        Due.is("28: four acts", x.carryOut(), 4);
        Due.is("28: on the day 10", x.ofOrder(5, 6), 10);
        Due.is("28: on the day 18", x.ofOrder(6, 6), 18);
    }

    private static void acts(String text, int done, int accounts) {
        StandingPayments x = new StandingPayments();
        for (int i = 0; i < accounts; i++) x.account(0, 0);
        Due.write(x, text);
        Due.is("28: carried out of " + text, x.carryOut(), done);
        Due.is("28: empty behind " + text, x.count(9), 0);
    }

    private static void promise28ActsThatFail() {
        acts("n0", 0, 1);
        acts("n401", 0, 1);
        acts("n1;n99999;n1", 1, 1);
        acts("n400;n400;n294;n1", 3, 1);
        acts("d0+1;d1+1;d0+1", 1, 1);
        acts("d0+0", 0, 1);
        acts("s0", 0, 1);
        acts("p0>-*1d1.;s0;s0;g0", 2, 1);
        acts("p0>-*1d1.;g0;s0", 1, 1);
        acts("p0>-*1d1.;s1", 1, 1);
        acts("p0>0*1d1.", 0, 1);
        acts("p0>1*1d1.", 0, 1);
        acts("p1>0*1d1.", 0, 1);
        acts("p1>0*1d1.", 1, 2);
        acts("p0>-*0d1.", 0, 1);
        acts("p0>-*1d0.", 0, 1);
        acts("p0>-*1d12.", 1, 1);
        acts("p0>-*1d13.", 0, 1);
        acts("p0>-*1d100.", 0, 1);
        acts("p0>-*1d101.", 0, 1);
        acts("p0>-*1d99999.", 0, 1);
        acts("p0>-*1m1/31.", 1, 1);
        acts("p0>-*1m1/32.", 0, 1);
        acts("p0>-*1m1/0.", 0, 1);
        acts("p0>-*1d0/101.", 0, 1);
        acts("p0>-*1m1/101.", 0, 1);
        acts("p0>-*1d1/99999.", 0, 1);
        acts("p0>-*1d1.;".repeat(7) + "p0>-*1d1.", 8, 1);
        StandingPayments x = new StandingPayments();
        x.account(0, 0);
        for (int i = 0; i < 15; i++) x.order(8, 1, 101, 0, 0, 0);
        Due.write(x, "p0>-*1d1.;p0>-*1d1.;n1");
        Due.is("28: too many orders", x.carryOut(), 1);
        Due.is("28: nothing behind it", x.count(0), 0);
        Due.is("28: 16 orders", x.count(2), 16);
    }

    private static void promise28IsOneChange() {
        StandingPayments x = new StandingPayments();
        Due.is("28: an empty text", x.carryOut(), -3);
        x.account(0, 0);
        Due.write(x, "d0+5;d0+6;n2;s");
        Due.is("28: a fault", x.carryOut(), -3);
        Due.is("28: the pad stays", x.count(9), 14);
        Due.is("28: nothing is done", x.money(0, 0), 0);
        Due.is("28: no change", x.count(10), 1);
        x.put('7');
        Due.is("28: up to the error", x.carryOut(), 3);
        Due.is("28: what was done stays", x.money(0, 0), 11);
        Due.is("28: two days", x.count(0), 2);
        Due.is("28: one change", x.count(10), 2);
        Due.write(x, "s0");
        Due.is("28: none is carried out", x.carryOut(), 0);
        Due.is("28: a change too", x.count(10), 3);
        Due.write(x, "n1");
        Due.is("28: back before it", x.undo(), 2);
        Due.is("28: nothing was different", x.money(0, 0), 11);
        Due.is("28: back before all acts", x.undo(), 1);
        Due.is("28: none was done", x.money(0, 0) + x.count(0), 0);
        Due.is("28: the pad is not undone", x.count(9), 2);
    }
}
