import java.util.ArrayDeque;
import java.util.ArrayList;
import java.util.Comparator;
import java.util.Deque;
import java.util.List;
import java.util.TreeSet;
import java.util.regex.Matcher;
import java.util.regex.Pattern;

/** The document once more, as plainly as the Java library lets it be said: what the program is compared with. */
final class PlainHouse {
    static final int LAST = 1094;
    static final Pattern ACT = Pattern.compile(
            "p[0-7]>[-0-7]\\*N[dwme]N(/N)?[.fbx!]|[sgn]N|d[0-7]\\+N".replace("N", "(0|[1-9][0-9]{0,4})"));
    static final Pattern TEXT = Pattern.compile("(" + ACT + ")(;(" + ACT + "))*");

    static final class Pay {
        int order, amount, nominal, due, failed;
    }

    static final class Account {
        int overdraft, keeps, feeder = -6;
        long[] sums = new long[8];
        double owed;
    }

    static final class Order {
        int payer, getter, amount, kind, n, d, first, rule, priority, left, state;
        boolean endless;
        int made, missed, skipped;
        /** The index of the last occurrence that is behind. */
        int behind = -1;
    }

    static final class State {
        int today, failed;
        int[] settings = {3, 250, 120, 0};
        TreeSet<Integer> holidays = new TreeSet<>();
        List<Account> accounts = new ArrayList<>();
        List<Order> orders = new ArrayList<>();
        List<Pay> waiting = new ArrayList<>();
        List<int[]> failures = new ArrayList<>();

        State copy() {
            State c = new State();
            c.today = today;
            c.failed = failed;
            c.settings = settings.clone();
            c.holidays.addAll(holidays);
            for (Account a : accounts) {
                Account b = new Account();
                b.overdraft = a.overdraft;
                b.keeps = a.keeps;
                b.feeder = a.feeder;
                b.sums = a.sums.clone();
                b.owed = a.owed;
                c.accounts.add(b);
            }
            for (Order o : orders) {
                Order p = new Order();
                p.payer = o.payer;
                p.getter = o.getter;
                p.amount = o.amount;
                p.kind = o.kind;
                p.n = o.n;
                p.d = o.d;
                p.first = o.first;
                p.rule = o.rule;
                p.priority = o.priority;
                p.left = o.left;
                p.state = o.state;
                p.endless = o.endless;
                p.made = o.made;
                p.missed = o.missed;
                p.skipped = o.skipped;
                p.behind = o.behind;
                c.orders.add(p);
            }
            for (Pay w : waiting) {
                Pay v = new Pay();
                v.order = w.order;
                v.amount = w.amount;
                v.nominal = w.nominal;
                v.due = w.due;
                v.failed = w.failed;
                c.waiting.add(v);
            }
            return c;
        }

        // ---- calendar

        static int lengthOf(int month) {
            return new int[] {31, 28, 31, 30, 31, 30, 31, 31, 30, 31, 30, 31}[month % 12];
        }

        static int startOf(int month) {
            int day = 0;
            for (int m = 0; m < month; m++) day += lengthOf(m);
            return day;
        }

        static int monthOf(int day) {
            int month = 0;
            while (startOf(month + 1) <= day) month++;
            return month;
        }

        boolean business(int day) {
            return (day + settings[3]) % 7 < 5 && !holidays.contains(day);
        }

        int toward(int day, int step) {
            for (int at = day; at >= 0 && at <= LAST; at += step) if (business(at)) return at;
            return -6;
        }

        int shifted(int day, int rule) {
            if (business(day) || rule == 0 || rule == 4) return day;
            int next = toward(day, 1);
            int before = toward(day, -1);
            int to;
            if (rule == 1) to = next;
            else if (rule == 2) to = before;
            else to = next == -6 || monthOf(next) != monthOf(day) ? before : next;
            return to == -6 ? day : to;
        }

        /** Index and nominal day of each occurrence behind those that are behind, as the calendar is now. */
        List<int[]> occurrences(Order o) {
            List<int[]> all = new ArrayList<>();
            for (int index = 0; index <= 1094; index++) {
                int day;
                if (o.kind < 2) {
                    day = o.first + (o.kind == 0 ? 1 : 7) * o.n * index;
                } else {
                    int month = monthOf(Math.min(o.first, LAST)) + o.n * index;
                    if (month > 35) break;
                    int end = startOf(month) + lengthOf(month) - 1;
                    day = startOf(month) + Math.min(o.d, lengthOf(month)) - 1;
                    if (o.kind == 3) {
                        day = end;
                        while (day >= startOf(month) && !business(day)) day--;
                        if (day < startOf(month)) day = end;
                    }
                }
                if (day > LAST) break;
                if (day >= o.first && index > o.behind) all.add(new int[] {index, day});
            }
            return all;
        }

        int leaveOut(Order o) {
            int count = 0;
            for (int[] occurrence : occurrences(o)) {
                if (shifted(occurrence[1], o.rule) >= today) break;
                o.behind = occurrence[0];
                count++;
            }
            return count;
        }

        long waits(int account) {
            return waiting.stream().filter(w -> orders.get(w.order).payer == account).mapToLong(w -> w.amount).sum();
        }

        // ---- changes without a history

        int order(int parties, int amount, int dates, int first, int how, int many) {
            if (parties < 0 || parties / 9 >= accounts.size()) return -1;
            int getter = parties % 9 == 8 ? -6 : parties % 9;
            if (getter >= accounts.size() || getter == parties / 9) return -1;
            if (amount < 1 || amount > 1000000) return -2;
            if (dates < 0 || dates / 10000 > 3) return -2;
            int n = dates % 10000 / 100;
            if (n < 1 || n > 12 || dates % 100 < 1 || dates % 100 > 31) return -2;
            if (first < today || first > LAST || how < 0 || how > 49 || many < 0 || many > 99) return -2;
            if (orders.size() == 16) return -4;
            Order o = new Order();
            o.payer = parties / 9;
            o.getter = getter;
            o.amount = amount;
            o.kind = dates / 10000;
            o.n = n;
            o.d = dates % 100;
            o.first = first;
            o.rule = how / 10;
            o.priority = how % 10;
            o.left = many;
            o.endless = many == 0;
            leaveOut(o);
            orders.add(o);
            return orders.size() - 1;
        }

        int stop(int order) {
            if (order < 0 || order >= orders.size()) return -1;
            if (orders.get(order).state != 0) return -5;
            orders.get(order).state = 1;
            return (int) waiting.stream().filter(w -> w.order == order).count();
        }

        int goOn(int order) {
            if (order < 0 || order >= orders.size()) return -1;
            if (orders.get(order).state != 1) return -5;
            orders.get(order).state = 0;
            return leaveOut(orders.get(order));
        }

        int deposit(int account, int cents) {
            if (account < 0 || account >= accounts.size()) return -1;
            if (cents < 1 || cents > 100000000) return -2;
            long[] sums = accounts.get(account).sums;
            sums[1] += cents;
            sums[0] += cents;
            return sums[0] >= 0 ? 1 : 0;
        }

        int days(int days) {
            if (days < 1 || days > 400) return -2;
            if (today + days > LAST) return -5;
            for (int i = 0; i < days; i++) pass();
            return today;
        }

        // ---- a day

        void pass() {
            for (int number = 0; number < orders.size(); number++) fallDue(number);
            for (int i = 0; i < accounts.size(); i++) {
                Account a = accounts.get(i);
                if (a.feeder == -6) continue;
                long rest = waits(i) - (a.sums[0] + a.overdraft);
                Account f = accounts.get(a.feeder);
                long most = Math.max(0, f.sums[0] - f.keeps);
                if (rest <= 0) continue;
                long moved = Math.min(rest, most);
                f.sums[0] -= moved;
                f.sums[5] += moved;
                a.sums[0] += moved;
                a.sums[4] += moved;
            }
            if (business(today)) {
                List<Pay> row = new ArrayList<>(waiting);
                row.sort(Comparator.<Pay>comparingInt(w -> -orders.get(w.order).priority)
                        .thenComparingInt(w -> w.due).thenComparingInt(w -> w.order).thenComparingInt(w -> w.nominal));
                for (Pay w : row) attempt(w);
            }
            boolean ends = startOf(monthOf(today)) + lengthOf(monthOf(today)) - 1 == today;
            for (Account a : accounts) {
                float rate = settings[2] / 1000.0f;
                if (a.sums[0] < 0) a.owed += -a.sums[0] * (double) rate / 365.0;
                if (!ends) continue;
                long whole = (long) Math.floor(a.owed);
                a.owed -= whole;
                a.sums[0] -= whole;
                a.sums[7] += whole;
            }
            today++;
        }

        void fallDue(int number) {
            Order o = orders.get(number);
            if (o.state != 0) return;
            List<int[]> coming = occurrences(o);
            while (!coming.isEmpty() && (o.endless || o.left > 0) && shifted(coming.get(0)[1], o.rule) <= today) {
                int[] occurrence = coming.remove(0);
                o.behind = occurrence[0];
                if (!o.endless) o.left--;
                if (o.rule == 4 && !business(occurrence[1])) {
                    o.skipped++;
                    continue;
                }
                Pay w = new Pay();
                w.order = number;
                w.amount = o.amount;
                w.nominal = occurrence[1];
                w.due = today;
                waiting.add(w);
            }
            if (coming.isEmpty() || !o.endless && o.left == 0) o.state = 2;
        }

        void attempt(Pay w) {
            Order o = orders.get(w.order);
            Account a = accounts.get(o.payer);
            if (a.sums[0] + a.overdraft >= w.amount) {
                a.sums[0] -= w.amount;
                a.sums[2] += w.amount;
                if (o.getter != -6) {
                    accounts.get(o.getter).sums[0] += w.amount;
                    accounts.get(o.getter).sums[3] += w.amount;
                }
                o.made++;
                waiting.remove(w);
                return;
            }
            failures.add(new int[] {today, o.payer});
            failed++;
            a.sums[0] -= settings[1];
            a.sums[6] += settings[1];
            w.failed++;
            if (w.failed < settings[0]) return;
            o.missed++;
            waiting.remove(w);
        }

        State after(int days) {
            State then = copy();
            for (int i = 0; i < days && then.today < LAST; i++) then.pass();
            return then;
        }
    }

    State now = new State();
    private final Deque<State> history = new ArrayDeque<>();
    private final State[] slots = new State[2];
    private String pad = "";

    private int keep(State before, int answer) {
        if (answer <= -1 && answer >= -5) return answer;
        history.addLast(before);
        if (history.size() > 6) history.removeFirst();
        return answer;
    }

    private boolean isAccount(int account) {
        return account >= 0 && account < now.accounts.size();
    }

    private boolean isOrder(int order) {
        return order >= 0 && order < now.orders.size();
    }

    int set(int setting, int value) {
        int[][] ranges = {{1, 9}, {0, 10000}, {0, 1000}, {0, 6}};
        if (setting < 0 || setting > 3 || value < ranges[setting][0] || value > ranges[setting][1]) return -2;
        int previous = now.settings[setting];
        keep(now.copy(), 0);
        now.settings[setting] = value;
        return previous;
    }

    int holiday(int day, int is) {
        if (day < 0 || day > LAST || is < 0 || is > 1) return -2;
        if (is == 1 && now.holidays.size() == 20 && !now.holidays.contains(day)) return -4;
        keep(now.copy(), 0);
        if (is == 1) now.holidays.add(day);
        else now.holidays.remove(day);
        return now.holidays.size();
    }

    int account(int overdraft, int keeps) {
        if (overdraft < 0 || overdraft > 1000000 || keeps < 0 || keeps > 1000000) return -2;
        if (now.accounts.size() == 8) return -4;
        keep(now.copy(), 0);
        Account a = new Account();
        a.overdraft = overdraft;
        a.keeps = keeps;
        now.accounts.add(a);
        return now.accounts.size() - 1;
    }

    int feed(int account, int feeder) {
        if (!isAccount(account) || feeder != -6 && (!isAccount(feeder) || feeder == account)) return -1;
        keep(now.copy(), 0);
        int previous = now.accounts.get(account).feeder;
        now.accounts.get(account).feeder = feeder;
        return previous;
    }

    int deposit(int account, int cents) {
        return keep(now.copy(), now.deposit(account, cents));
    }

    int order(int parties, int amount, int dates, int first, int how, int many) {
        return keep(now.copy(), now.order(parties, amount, dates, first, how, many));
    }

    int change(int order, int amount, int priority) {
        if (!isOrder(order)) return -1;
        if (amount < 1 || amount > 1000000 || priority < 0 || priority > 9) return -2;
        if (now.orders.get(order).state == 2) return -5;
        keep(now.copy(), 0);
        int previous = now.orders.get(order).amount;
        now.orders.get(order).amount = amount;
        now.orders.get(order).priority = priority;
        return previous;
    }

    int stop(int order) {
        return keep(now.copy(), now.stop(order));
    }

    int goOn(int order) {
        return keep(now.copy(), now.goOn(order));
    }

    int giveUp(int payment) {
        if (payment < 0 || payment >= now.waiting.size()) return -1;
        keep(now.copy(), 0);
        now.orders.get(now.waiting.remove(payment).order).missed++;
        return now.waiting.size();
    }

    int days(int days) {
        return keep(now.copy(), now.days(days));
    }

    int ofDay(int day, int what) {
        if (day < 0 || day > LAST || what < 0 || what > 5) return -2;
        int month = State.monthOf(day);
        return switch (what) {
            case 0 -> (day + now.settings[3]) % 7;
            case 1 -> month;
            case 2 -> day - State.startOf(month) + 1;
            case 3 -> now.business(day) ? 1 : 0;
            case 4 -> now.toward(day, 1);
            default -> now.toward(day, -1);
        };
    }

    long money(int account, int what) {
        if (!isAccount(account)) return -1;
        if (what < 0 || what > 8) return -2;
        return what == 8 ? now.waits(account) : now.accounts.get(account).sums[what];
    }

    long owedBits(int account) {
        return isAccount(account) ? Double.doubleToLongBits(now.accounts.get(account).owed) : -1;
    }

    int ofOrder(int order, int what) {
        if (!isOrder(order)) return -1;
        if (what < 0 || what > 15) return -2;
        Order o = now.orders.get(order);
        List<int[]> coming = now.occurrences(o);
        int waits = (int) now.waiting.stream().filter(w -> w.order == order).count();
        int next = o.state == 2 || coming.isEmpty() ? -6 : coming.get(0)[1];
        return new int[] {o.payer, o.getter, o.amount, o.kind, o.n, o.d, o.first, o.rule, o.priority,
            o.state == 2 || o.endless ? 0 : o.left, o.state, o.made, o.missed, o.skipped, waits, next}[what];
    }

    int ofPayment(int payment, int what) {
        if (payment < 0 || payment >= now.waiting.size()) return -1;
        if (what < 0 || what > 4) return -2;
        Pay w = now.waiting.get(payment);
        return new int[] {w.order, w.amount, w.nominal, w.due, w.failed}[what];
    }

    int count(int what) {
        if (what < 0 || what > 14) return -2;
        int made = now.orders.stream().mapToInt(o -> o.made).sum();
        int missed = now.orders.stream().mapToInt(o -> o.missed).sum();
        int skipped = now.orders.stream().mapToInt(o -> o.skipped).sum();
        return new int[] {now.today, now.accounts.size(), now.orders.size(), now.holidays.size(),
            now.waiting.size(), made, missed, skipped, now.failed, pad.length(), history.size(), now.settings[0],
            now.settings[1], now.settings[2], now.settings[3]}[what];
    }

    int dateOf(int order, int k) {
        if (!isOrder(order)) return -1;
        if (k < 0 || k > 99) return -2;
        Order o = now.orders.get(order);
        List<int[]> coming = now.occurrences(o);
        if (o.state == 2 || k >= coming.size() || !o.endless && k >= o.left) return -6;
        return now.shifted(coming.get(k)[1], o.rule);
    }

    int shift(int day, int rule) {
        return day < 0 || day > LAST || rule < 0 || rule > 4 ? -2 : now.shifted(day, rule);
    }

    long balanceIn(int account, int days) {
        if (!isAccount(account)) return -1;
        if (days < 1 || days > 400) return -2;
        return now.after(days).accounts.get(account).sums[0];
    }

    int firstFailure(int account) {
        if (account != -6 && !isAccount(account)) return -1;
        for (int[] failure : now.after(400).failures) if (account == -6 || failure[1] == account) return failure[0];
        return -6;
    }

    int leastDeposit(int account, int days) {
        if (!isAccount(account)) return -1;
        if (days < 1 || days > 100) return -2;
        for (int cents = 0; cents <= 100000; cents += 5000) {
            State with = now.copy();
            with.accounts.get(account).sums[0] += cents;
            if (with.after(days).failures.stream().noneMatch(f -> f[1] == account)) return cents;
        }
        return -6;
    }

    int ahead(int order, int days, int what) {
        if (!isOrder(order)) return -1;
        if (days < 1 || days > 400 || what < 0 || what > 3) return -2;
        State then = now.after(days);
        Order a = now.orders.get(order);
        Order b = then.orders.get(order);
        int waits = (int) then.waiting.stream().filter(w -> w.order == order).count();
        return new int[] {b.made - a.made, b.missed - a.missed, b.skipped - a.skipped, waits}[what];
    }

    int put(long characters) {
        String added = "";
        long rest = characters;
        while (rest != 0) {
            int sign = (int) (rest & 255);
            if (sign < 33 || sign > 126) return -2;
            added = (char) sign + added;
            rest >>>= 8;
        }
        if (added.isEmpty()) return -2;
        if (pad.length() + added.length() > 80) return -4;
        pad += added;
        return pad.length();
    }

    int wipe() {
        int length = pad.length();
        pad = "";
        return length;
    }

    /** The first sign with which the text can no longer be the beginning of a right one. */
    int fault() {
        if (TEXT.matcher(pad).matches()) return -6;
        for (int end = 1; end <= pad.length(); end++) {
            Matcher matcher = TEXT.matcher(pad.substring(0, end));
            if (!matcher.matches() && !matcher.hitEnd()) return end - 1;
        }
        return pad.length();
    }

    int carryOut() {
        if (fault() != -6) return -3;
        keep(now.copy(), 0);
        int done = 0;
        for (String act : pad.split(";")) {
            int answer = perform(act);
            if (answer <= -1 && answer >= -5) break;
            done++;
        }
        pad = "";
        return done;
    }

    private int perform(String act) {
        char verb = act.charAt(0);
        if (verb == 's') return now.stop(Integer.parseInt(act.substring(1)));
        if (verb == 'g') return now.goOn(Integer.parseInt(act.substring(1)));
        if (verb == 'n') return now.days(Integer.parseInt(act.substring(1)));
        if (verb == 'd') return now.deposit(act.charAt(1) - '0', Integer.parseInt(act.substring(3)));
        Matcher m = Pattern.compile("p(.)>(.)\\*(\\d+)(.)(\\d+)(?:/(\\d+))?(.)").matcher(act);
        if (!m.matches()) throw new IllegalStateException(act);
        int getter = m.group(2).equals("-") ? 8 : Integer.parseInt(m.group(2));
        int n = Integer.parseInt(m.group(5));
        int d = m.group(6) == null ? 1 : Integer.parseInt(m.group(6));
        if (n < 1 || n > 12 || d < 1 || d > 31) return -2;
        return now.order(9 * Integer.parseInt(m.group(1)) + getter, Integer.parseInt(m.group(3)),
                10000 * "dwme".indexOf(m.group(4)) + 100 * n + d, now.today, 10 * ".fbx!".indexOf(m.group(7)) + 5, 0);
    }

    int undo() {
        if (history.isEmpty()) return -5;
        now = history.removeLast();
        return history.size();
    }

    int save(int slot) {
        if (slot < 0 || slot > 1) return -2;
        slots[slot] = now.copy();
        return now.today;
    }

    int restore(int slot) {
        if (slot < 0 || slot > 1) return -2;
        if (slots[slot] == null) return -5;
        keep(now.copy(), 0);
        now = slots[slot].copy();
        return now.today;
    }
}
