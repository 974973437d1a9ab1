import java.nio.file.Files;
import java.nio.file.Path;
import java.util.List;

/** The example of README.md: its calls in their order, and the answers that stand behind them there. */
public final class Readme {
    private static List<String> lines;
    private static int at = 0;

    public static void main(String[] args) throws Exception {
        lines = Files.readAllLines(Path.of("README.md"));
        accountsAndOrders();
        Due.is("calls of README.md that were not made", callsFrom(at), 0);
        Due.end();
    }

    private static void accountsAndOrders() {
        StandingPayments house = new StandingPayments();
        row("house.account(50000, 0)", house.account(50000, 0), 0);
        row("house.account(0, 10000)", house.account(0, 10000), 1);
        row("house.feed(0, 1)", house.feed(0, 1), -6);
        row("house.deposit(1, 150000)", house.deposit(1, 150000), 1);
        row("house.order(8, 80000, 20101, 0, 15, 0)", house.order(8, 80000, 20101, 0, 15, 0), 0);
        row("house.dateOf(0, 1)", house.dateOf(0, 1), 31);
        row("house.holiday(31, 1)", house.holiday(31, 1), 1);
        row("house.dateOf(0, 1)", house.dateOf(0, 1), 32);
        // Three payments take 240000 and some interest; there are 140000 from account 1 and the overdraft of 50000.
        row("house.firstFailure(-6)", house.firstFailure(-6), 59);
        row("house.leastDeposit(0, 60)", house.leastDeposit(0, 60), 55000);
        row("house.ahead(0, 100, 0)", house.ahead(0, 100, 0), 2);
        row("house.days(1)", house.days(1), 1);
        row("house.money(0, 0)", house.money(0, 0), -50000);
        row("house.money(0, 4)", house.money(0, 4), 30000);
        row("house.owedBits(0)", house.owedBits(0), Double.doubleToLongBits(50000 * (double) (120 / 1000.0f) / 365.0));
        textsAndSavedStates(house);
        afterwards(house);
    }

    private static void textsAndSavedStates(StandingPayments house) {
        Due.is("the characters of the example", 0x64302B3530303030L, Due.packed("d0+50000"));
        row("house.put(0x64302B3530303030L)", house.put(0x64302B3530303030L), 8);
        row("house.fault()", house.fault(), -6);
        row("house.carryOut()", house.carryOut(), 1);
        row("house.money(0, 0)", house.money(0, 0), 0);
        row("house.save(0)", house.save(0), 1);
        row("house.undo()", house.undo(), 5);
        row("house.money(0, 0)", house.money(0, 0), -50000);
        row("house.restore(0)", house.restore(0), 1);
        row("house.money(0, 0)", house.money(0, 0), 0);
    }

    /** What the rows below the example say of settings and of texts. */
    private static void afterwards(StandingPayments house) {
        Due.is("set(FEE, 500)", house.set(StandingPayments.FEE, 500), 250);
        Due.is("count(12)", house.count(12), 500);
        Due.write(house, "p0>1*500m1/15f;s0;g0;d1+900;n7");
        Due.is("the acts of README.md", house.carryOut(), 5);
        int[] due = {0, 1, 500, 2, 1, 15, 1, 1, 5};
        for (int what = 0; what < due.length; what++) Due.is("the order from a text", house.ofOrder(1, what), due[what]);
    }

    /** The next row of the example is this call, answers this in the program, and says so. */
    private static void row(String call, long got, long want) {
        Due.is(call, got, want);
        at += gapBeforeCall(at);
        String line = at < lines.size() ? lines.get(at).trim() : "";
        Due.is("README.md: \"" + line + "\" is for " + call, line.startsWith(call + " ") ? 1 : 0, 1);
        Due.is("README.md: \"" + line + "\" says " + want, line.matches(".*\\) +// " + want + "\\b.*") ? 1 : 0, 1);
        at++;
    }

    private static boolean isCall(String line) {
        return line.startsWith("    house.");
    }

    private static int gapBeforeCall(int from) {
        int gap = 0;
        while (from + gap < lines.size() && !isCall(lines.get(from + gap))) gap++;
        return gap;
    }

    private static int callsFrom(int from) {
        int calls = 0;
        for (String line : lines.subList(Math.min(from, lines.size()), lines.size())) if (isCall(line)) calls++;
        return calls;
    }
}
