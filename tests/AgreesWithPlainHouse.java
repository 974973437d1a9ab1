import java.util.Arrays;
import java.util.Random;

/**
 * Runs of 512 calls on the program and on PlainHouse, with the same answers due. The runs are the same ones each time.
 * With two arguments, a first and a last seed, it runs those instead.
 */
public final class AgreesWithPlainHouse {
    private static final int[] ODD = {Integer.MIN_VALUE, Integer.MAX_VALUE, -7, -6, -5, -1, 0, 1, 8, 9, 16, 99, 100,
        400, 401, 1094, 1095, 1000000, 1000001, 100000000, 100000001};

    /** An object is for so many calls; what later ones answer is free. */
    private static final int CALLS = 512;
    /** A text is put in some ten calls. */
    private static final int MOST_OF_A_STEP = 20;

    private final Random random;
    private final StandingPayments x = new StandingPayments();
    private final PlainHouse y = new PlainHouse();
    private final long seed;
    /** How a run goes: how often days pass, how many days, how often the calendar changes. */
    private final int hurry;
    private final int unrest;
    private int call;

    private AgreesWithPlainHouse(long seed) {
        this.seed = seed;
        random = new Random(seed);
        hurry = random.nextInt(4);
        unrest = random.nextInt(4);
    }

    public static void main(String[] args) {
        long first = args.length == 2 ? Long.parseLong(args[0]) : 1;
        long last = args.length == 2 ? Long.parseLong(args[1]) : 60;
        for (long seed = first; seed <= last; seed++) new AgreesWithPlainHouse(seed).run();
        Due.end();
    }

    private void run() {
        for (int i = 0; i < 3; i++) same("account", new int[] {below(3000), below(500)});
        while (call < CALLS - MOST_OF_A_STEP) step();
        while (call < CALLS) question();
    }

    private int below(int bound) {
        return random.nextInt(bound);
    }

    /** A number from 0 to most, now and then one beside it or an odd one. */
    private int about(int most) {
        int dice = below(60);
        if (dice == 0) return ODD[below(ODD.length)];
        if (dice == 1) return -1;
        if (dice == 2) return most + 1;
        return below(most + 1);
    }

    private int anAccount() {
        return about(Math.max(0, y.count(1) - 1));
    }

    private int anOrder() {
        return about(Math.max(0, y.count(2) - 1));
    }

    private void step() {
        int dice = below(100);
        if (dice < 8) same("days", new int[] {1 + about(new int[] {2, 6, 20, 70}[hurry])});
        else if (dice < 9 + unrest) calendarChange();
        else if (dice < 16) aNewOrder();
        else if (dice < 30) otherChange();
        else if (dice < 40) aText();
        else if (dice < 46) history();
        else if (dice < 56) forecast();
        else question();
    }

    private void calendarChange() {
        if (below(3) == 0) same("set", new int[] {3, about(6)});
        else same("holiday", new int[] {below(4) == 0 ? about(1094) : y.count(0) + below(40) - 5, below(4) == 0 ? about(1) : 1});
    }

    private void aNewOrder() {
        if (y.count(2) >= 12 && below(3) > 0) {
            same("stop", new int[] {anOrder()});
            return;
        }
        int payer = below(Math.max(1, y.count(1)));
        int getter = below(3) == 0 ? 8 : below(9);
        int kind = below(4);
        int n = below(3) == 0 ? 1 + below(12) : 1;
        int dates = 10000 * kind + 100 * n + 1 + below(31);
        int first = Math.min(1094, y.count(0) + below(below(3) == 0 ? 300 : 35));
        int many = below(3) == 0 ? 0 : 1 + below(12);
        int amount = below(8) == 0 ? 1 + below(60000) : 1 + below(900);
        int[] a = {9 * payer + getter, amount, dates, first, 10 * below(5) + below(10), many};
        if (below(12) == 0) a[below(6)] = ODD[below(ODD.length)];
        same("order", a);
    }

    private void otherChange() {
        switch (below(9)) {
            case 0: same("set", new int[] {about(2), below(2) == 0 ? about(9) : about(1000)}); break;
            case 1: same("account", new int[] {about(3000), about(400)}); break;
            case 2: same("feed", new int[] {anAccount(), below(3) == 0 ? -6 : anAccount()}); break;
            case 3:
            case 4: same("deposit", new int[] {anAccount(), about(5000)}); break;
            case 5: same("change", new int[] {anOrder(), about(2000), about(9)}); break;
            case 6: same("stop", new int[] {anOrder()}); break;
            case 7: same("goOn", new int[] {anOrder()}); break;
            default: same("giveUp", new int[] {about(Math.max(0, y.count(4) - 1))}); break;
        }
    }

    private String anAct() {
        int number = below(5) == 0 ? below(100000) : below(20);
        switch (below(6)) {
            case 0: return "s" + below(10);
            case 1: return "g" + below(10);
            case 2: return "d" + below(4) + "+" + below(3000);
            case 3: return "n" + (1 + below(9));
            default:
                return "p" + below(4) + ">" + "01234567----".charAt(below(12)) + "*" + (1 + below(900)) + "dwme".charAt(below(4))
                        + (below(8) == 0 ? number : 1 + below(4)) + (below(2) == 0 ? "/" + (1 + below(31)) : "")
                        + ".fbx!".charAt(below(5));
        }
    }

    private void aText() {
        String text = anAct();
        for (int i = below(4); i > 0; i--) text += ";" + anAct();
        if (below(4) == 0) {
            int at = below(text.length());
            text = text.substring(0, at) + "psgdn0123456789>-*/.;!fbxwme+~"
                    .charAt(below(30)) + text.substring(at + below(2));
        }
        if (below(10) == 0) text = text.substring(0, below(text.length() + 1));
        for (int at = 0; at < text.length(); at += 8) {
            long packed = Due.packed(text.substring(at, Math.min(at + 8, text.length())));
            if (below(200) == 0) packed = random.nextLong();
            if (below(200) == 0) packed = packed << 8 * below(8);
            due("put", new int[] {(int) packed}, x.put(packed), y.put(packed));
        }
        same("fault", new int[0]);
        if (below(8) > 0) same("carryOut", new int[0]);
        if (below(3) == 0) same("wipe", new int[0]);
    }

    private void history() {
        switch (below(4)) {
            case 0: same("save", new int[] {about(1)}); break;
            case 1: if (below(2) == 0) same("restore", new int[] {about(1)}); break;
            default: same("undo", new int[0]); break;
        }
    }

    private void forecast() {
        switch (below(6)) {
            case 0: same("dateOf", new int[] {anOrder(), about(below(2) == 0 ? 99 : 6)}); break;
            case 1: same("shift", new int[] {about(1094), about(4)}); break;
            case 2: same("balanceIn", new int[] {anAccount(), about(below(2) == 0 ? 400 : 30)}); break;
            case 3: same("firstFailure", new int[] {below(3) == 0 ? -6 : anAccount()}); break;
            case 4: same("leastDeposit", new int[] {anAccount(), about(below(2) == 0 ? 100 : 10)}); break;
            default: same("ahead", new int[] {anOrder(), about(below(2) == 0 ? 400 : 30), about(3)}); break;
        }
    }

    private void question() {
        switch (below(6)) {
            case 0: same("ofDay", new int[] {about(1094), about(5)}); break;
            case 1: same("money", new int[] {anAccount(), about(8)}); break;
            case 2: same("owedBits", new int[] {anAccount()}); break;
            case 3: same("ofOrder", new int[] {anOrder(), about(15)}); break;
            case 4: same("ofPayment", new int[] {about(Math.max(0, y.count(4) - 1)), about(4)}); break;
            default: same("count", new int[] {about(14)}); break;
        }
    }

    private void due(String name, int[] a, long got, long want) {
        call++;
        if (got != want) {
            Due.is("seed " + seed + ", call " + call + ", " + name + Arrays.toString(a), got, want);
            return;
        }
        Due.is(name, got, want);
    }

    private void same(String name, int[] a) {
        due(name, a, ofProgram(name, a), ofPlain(name, a));
    }

    private long ofProgram(String name, int[] a) {
        return switch (name) {
            case "set" -> x.set(a[0], a[1]);
            case "holiday" -> x.holiday(a[0], a[1]);
            case "account" -> x.account(a[0], a[1]);
            case "feed" -> x.feed(a[0], a[1]);
            case "deposit" -> x.deposit(a[0], a[1]);
            case "order" -> x.order(a[0], a[1], a[2], a[3], a[4], a[5]);
            case "change" -> x.change(a[0], a[1], a[2]);
            case "stop" -> x.stop(a[0]);
            case "goOn" -> x.goOn(a[0]);
            case "giveUp" -> x.giveUp(a[0]);
            case "days" -> x.days(a[0]);
            case "ofDay" -> x.ofDay(a[0], a[1]);
            case "money" -> x.money(a[0], a[1]);
            case "owedBits" -> x.owedBits(a[0]);
            case "ofOrder" -> x.ofOrder(a[0], a[1]);
            case "ofPayment" -> x.ofPayment(a[0], a[1]);
            case "count" -> x.count(a[0]);
            case "dateOf" -> x.dateOf(a[0], a[1]);
            case "shift" -> x.shift(a[0], a[1]);
            case "balanceIn" -> x.balanceIn(a[0], a[1]);
            case "firstFailure" -> x.firstFailure(a[0]);
            case "leastDeposit" -> x.leastDeposit(a[0], a[1]);
            case "ahead" -> x.ahead(a[0], a[1], a[2]);
            case "wipe" -> x.wipe();
            case "fault" -> x.fault();
            case "carryOut" -> x.carryOut();
            case "undo" -> x.undo();
            case "save" -> x.save(a[0]);
            case "restore" -> x.restore(a[0]);
            default -> throw new IllegalArgumentException(name);
        };
    }

    private long ofPlain(String name, int[] a) {
        return switch (name) {
            case "set" -> y.set(a[0], a[1]);
            case "holiday" -> y.holiday(a[0], a[1]);
            case "account" -> y.account(a[0], a[1]);
            case "feed" -> y.feed(a[0], a[1]);
            case "deposit" -> y.deposit(a[0], a[1]);
            case "order" -> y.order(a[0], a[1], a[2], a[3], a[4], a[5]);
            case "change" -> y.change(a[0], a[1], a[2]);
            case "stop" -> y.stop(a[0]);
            case "goOn" -> y.goOn(a[0]);
            case "giveUp" -> y.giveUp(a[0]);
            case "days" -> y.days(a[0]);
            case "ofDay" -> y.ofDay(a[0], a[1]);
            case "money" -> y.money(a[0], a[1]);
            case "owedBits" -> y.owedBits(a[0]);
            case "ofOrder" -> y.ofOrder(a[0], a[1]);
            case "ofPayment" -> y.ofPayment(a[0], a[1]);
            case "count" -> y.count(a[0]);
            case "dateOf" -> y.dateOf(a[0], a[1]);
            case "shift" -> y.shift(a[0], a[1]);
            case "balanceIn" -> y.balanceIn(a[0], a[1]);
            case "firstFailure" -> y.firstFailure(a[0]);
            case "leastDeposit" -> y.leastDeposit(a[0], a[1]);
            case "ahead" -> y.ahead(a[0], a[1], a[2]);
            case "wipe" -> y.wipe();
            case "fault" -> y.fault();
            case "carryOut" -> y.carryOut();
            case "undo" -> y.undo();
            case "save" -> y.save(a[0]);
            case "restore" -> y.restore(a[0]);
            default -> throw new IllegalArgumentException(name);
        };
    }
}
